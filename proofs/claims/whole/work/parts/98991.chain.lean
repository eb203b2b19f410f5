/-! texts: lists of words, as the model looks for them (written by wip/whole/ops/gen98991.py) -/
def wLH : List (List Nat) := [w_hour, w_kind, w_age, w_day, w_client, w_seams]
section CHAIN
variable {B : Nat → Nat} {n : Nat} {J : MJ} {q : Nat}
theorem m_skyHere (h : mR B n J q) : ∃ J', f_m_skyHere281 J = some (Int32.ofNat ((wIx wLK (wdW B n q)).getD 0), J') ∧ fr47 J J' ∧ ((∃ k, wIx wLK (wdW B n q) = some k ∧ mR B n J' (sk B n (wdE B n q))) ∨ (wIx wLK (wdW B n q) = none ∧ mX B n J' 1 q)) := by
  obtain ⟨h1, h2, h3, h4⟩ := mR_blanks h
  obtain ⟨o1, o2, o3, o4⟩ := scn_ok (P := ltP B) h1
  unfold f_m_skyHere281
  rw [m_takes ok_sun six_sun h, ob_some]
  try dsimp only
  by_cases c0 : w_sun = wdW B n q
  · have ix : wIx wLK (wdW B n q) = some 0 := (wIx_yes c0)
    rw [if_pos c0, if_pos c0, if_neg (by decide), ix]
    exact ⟨_, rfl, fr47_up fr47_rf (by omega), Or.inl ⟨_, rfl, mR_at h o2⟩⟩
  · rw [if_neg c0, if_neg c0, if_pos rfl]
    rw [m_takes ok_rain six_rain h4, ob_some, up_up, up_up]
    try dsimp only
    by_cases c1 : w_rain = wdW B n q
    · have ix : wIx wLK (wdW B n q) = some 1 := ((wIx_no c0).trans (congrArg (Option.map fun k => k + 1) (wIx_yes c1)))
      rw [if_pos c1, if_pos c1, if_neg (by decide), ix]
      exact ⟨_, rfl, fr47_up fr47_rf (by omega), Or.inl ⟨_, rfl, mR_at h o2⟩⟩
    · rw [if_neg c1, if_neg c1, if_pos rfl]
      rw [m_takes ok_grey six_grey h4, ob_some, up_up, up_up]
      try dsimp only
      by_cases c2 : w_grey = wdW B n q
      · have ix : wIx wLK (wdW B n q) = some 2 := ((wIx_no c0).trans (congrArg (Option.map fun k => k + 1) ((wIx_no c1).trans (congrArg (Option.map fun k => k + 1) (wIx_yes c2)))))
        rw [if_pos c2, if_pos c2, if_neg (by decide), ix]
        exact ⟨_, rfl, fr47_up fr47_rf (by omega), Or.inl ⟨_, rfl, mR_at h o2⟩⟩
      · rw [if_neg c2, if_neg c2, if_pos rfl]
        rw [m_takes ok_wind six_wind h4, ob_some, up_up, up_up]
        try dsimp only
        by_cases c3 : w_wind = wdW B n q
        · have ix : wIx wLK (wdW B n q) = some 3 := ((wIx_no c0).trans (congrArg (Option.map fun k => k + 1) ((wIx_no c1).trans (congrArg (Option.map fun k => k + 1) ((wIx_no c2).trans (congrArg (Option.map fun k => k + 1) (wIx_yes c3)))))))
          rw [if_pos c3, if_pos c3, if_neg (by decide), ix]
          exact ⟨_, rfl, fr47_up fr47_rf (by omega), Or.inl ⟨_, rfl, mR_at h o2⟩⟩
        · rw [if_neg c3, if_neg c3, if_pos rfl]
          rw [m_takes ok_frost six_frost h4, ob_some, up_up, up_up]
          try dsimp only
          by_cases c4 : w_frost = wdW B n q
          · have ix : wIx wLK (wdW B n q) = some 4 := ((wIx_no c0).trans (congrArg (Option.map fun k => k + 1) ((wIx_no c1).trans (congrArg (Option.map fun k => k + 1) ((wIx_no c2).trans (congrArg (Option.map fun k => k + 1) ((wIx_no c3).trans (congrArg (Option.map fun k => k + 1) (wIx_yes c4)))))))))
            rw [if_pos c4, if_pos c4, if_neg (by decide), ix]
            exact ⟨_, rfl, fr47_up fr47_rf (by omega), Or.inl ⟨_, rfl, mR_at h o2⟩⟩
          · rw [if_neg c4, if_neg c4, if_pos rfl]
            rw [m_takes ok_fog six_fog h4, ob_some, up_up, up_up]
            try dsimp only
            by_cases c5 : w_fog = wdW B n q
            · have ix : wIx wLK (wdW B n q) = some 5 := ((wIx_no c0).trans (congrArg (Option.map fun k => k + 1) ((wIx_no c1).trans (congrArg (Option.map fun k => k + 1) ((wIx_no c2).trans (congrArg (Option.map fun k => k + 1) ((wIx_no c3).trans (congrArg (Option.map fun k => k + 1) ((wIx_no c4).trans (congrArg (Option.map fun k => k + 1) (wIx_yes c5)))))))))))
              rw [if_pos c5, if_pos c5, if_neg (by decide), ix]
              exact ⟨_, rfl, fr47_up fr47_rf (by omega), Or.inl ⟨_, rfl, mR_at h o2⟩⟩
            · rw [if_neg c5, if_neg c5, if_pos rfl]
              have ix : wIx wLK (wdW B n q) = none := ((wIx_no c0).trans (congrArg (Option.map fun k => k + 1) ((wIx_no c1).trans (congrArg (Option.map fun k => k + 1) ((wIx_no c2).trans (congrArg (Option.map fun k => k + 1) ((wIx_no c3).trans (congrArg (Option.map fun k => k + 1) ((wIx_no c4).trans (congrArg (Option.map fun k => k + 1) ((wIx_no c5).trans (congrArg (Option.map fun k => k + 1) rfl))))))))))))
              obtain ⟨g1, g2, g3, g4⟩ := mR_blanks h4
              rw [up_up] at g3
              obtain ⟨J', j1, j2, j3⟩ := m_wrong_s (B := B) (n := n) (k := 1) (w := q) (p := q) (J := ab_up1 J 47 4 (Int32.ofNat q)) (by omega) h4.2.1 h4.1 h1 up_eq
              rw [g3, ob_some, up_eq, show f_m_wrong278 1 (Int32.ofNat q) _ = some J' from j1, ob_some, ix]
              exact ⟨J', rfl, fr47_tr (fr47_up fr47_rf (by omega)) j3, Or.inr ⟨rfl, j2⟩⟩
theorem m_kindHere (h : mR B n J q) : f_m_kindHere273 J = some (oI (wIx wLC (wdW B n q)), ab_up1 J 47 4 (Int32.ofNat q)) := by
  obtain ⟨h1, h2, h3, h4⟩ := mR_blanks h
  obtain ⟨o1, o2, o3, o4⟩ := scn_ok (P := ltP B) h1
  unfold f_m_kindHere273
  rw [m_isWord ok_bolt six_bolt h, ob_some]
  try dsimp only
  by_cases c0 : w_bolt = wdW B n q
  · have ix : wIx wLC (wdW B n q) = some 0 := (wIx_yes c0)
    rw [if_pos c0, if_neg (by decide), ix]
    rfl
  · rw [if_neg c0, if_pos rfl]
    rw [m_isWord ok_client six_client h4, ob_some, up_up]
    try dsimp only
    by_cases c1 : w_client = wdW B n q
    · have ix : wIx wLC (wdW B n q) = some 1 := ((wIx_no c0).trans (congrArg (Option.map fun k => k + 1) (wIx_yes c1)))
      rw [if_pos c1, if_neg (by decide), ix]
      rfl
    · rw [if_neg c1, if_pos rfl]
      rw [m_isWord ok_wants six_wants h4, ob_some, up_up]
      try dsimp only
      by_cases c2 : w_wants = wdW B n q
      · have ix : wIx wLC (wdW B n q) = some 2 := ((wIx_no c0).trans (congrArg (Option.map fun k => k + 1) ((wIx_no c1).trans (congrArg (Option.map fun k => k + 1) (wIx_yes c2)))))
        rw [if_pos c2, if_neg (by decide), ix]
        rfl
      · rw [if_neg c2, if_pos rfl]
        rw [m_isWord ok_order six_order h4, ob_some, up_up]
        try dsimp only
        by_cases c3 : w_order = wdW B n q
        · have ix : wIx wLC (wdW B n q) = some 3 := ((wIx_no c0).trans (congrArg (Option.map fun k => k + 1) ((wIx_no c1).trans (congrArg (Option.map fun k => k + 1) ((wIx_no c2).trans (congrArg (Option.map fun k => k + 1) (wIx_yes c3)))))))
          rw [if_pos c3, if_neg (by decide), ix]
          rfl
        · rw [if_neg c3, if_pos rfl]
          rw [m_isWord ok_seam six_seam h4, ob_some, up_up]
          try dsimp only
          by_cases c4 : w_seam = wdW B n q
          · have ix : wIx wLC (wdW B n q) = some 4 := ((wIx_no c0).trans (congrArg (Option.map fun k => k + 1) ((wIx_no c1).trans (congrArg (Option.map fun k => k + 1) ((wIx_no c2).trans (congrArg (Option.map fun k => k + 1) ((wIx_no c3).trans (congrArg (Option.map fun k => k + 1) (wIx_yes c4)))))))))
            rw [if_pos c4, if_neg (by decide), ix]
            rfl
          · rw [if_neg c4, if_pos rfl]
            rw [m_isWord ok_hands six_hands h4, ob_some, up_up]
            try dsimp only
            by_cases c5 : w_hands = wdW B n q
            · have ix : wIx wLC (wdW B n q) = some 5 := ((wIx_no c0).trans (congrArg (Option.map fun k => k + 1) ((wIx_no c1).trans (congrArg (Option.map fun k => k + 1) ((wIx_no c2).trans (congrArg (Option.map fun k => k + 1) ((wIx_no c3).trans (congrArg (Option.map fun k => k + 1) ((wIx_no c4).trans (congrArg (Option.map fun k => k + 1) (wIx_yes c5)))))))))))
              rw [if_pos c5, if_neg (by decide), ix, ob_some]
              rfl
            · have ix : wIx wLC (wdW B n q) = none := ((wIx_no c0).trans (congrArg (Option.map fun k => k + 1) ((wIx_no c1).trans (congrArg (Option.map fun k => k + 1) ((wIx_no c2).trans (congrArg (Option.map fun k => k + 1) ((wIx_no c3).trans (congrArg (Option.map fun k => k + 1) ((wIx_no c4).trans (congrArg (Option.map fun k => k + 1) ((wIx_no c5).trans (congrArg (Option.map fun k => k + 1) rfl))))))))))))
              rw [if_neg c5, if_pos rfl, ix, ob_some]
              rfl
theorem m_stepHere (h : mR B n J q) : f_m_stepHere301 J = some (oI (wIx wLT (wdW B n q)), ab_up1 J 47 4 (Int32.ofNat q)) := by
  obtain ⟨h1, h2, h3, h4⟩ := mR_blanks h
  obtain ⟨o1, o2, o3, o4⟩ := scn_ok (P := ltP B) h1
  unfold f_m_stepHere301
  rw [m_isWord ok_cut six_cut h, ob_some]
  try dsimp only
  by_cases c0 : w_cut = wdW B n q
  · have ix : wIx wLT (wdW B n q) = some 0 := (wIx_yes c0)
    rw [if_pos c0, if_neg (by decide), ix]
    rfl
  · rw [if_neg c0, if_pos rfl]
    rw [m_isWord ok_alter six_alter h4, ob_some, up_up]
    try dsimp only
    by_cases c1 : w_alter = wdW B n q
    · have ix : wIx wLT (wdW B n q) = some 1 := ((wIx_no c0).trans (congrArg (Option.map fun k => k + 1) (wIx_yes c1)))
      rw [if_pos c1, if_neg (by decide), ix]
      rfl
    · rw [if_neg c1, if_pos rfl]
      rw [m_isWord ok_turn six_turn h4, ob_some, up_up]
      try dsimp only
      by_cases c2 : w_turn = wdW B n q
      · have ix : wIx wLT (wdW B n q) = some 2 := ((wIx_no c0).trans (congrArg (Option.map fun k => k + 1) ((wIx_no c1).trans (congrArg (Option.map fun k => k + 1) (wIx_yes c2)))))
        rw [if_pos c2, if_neg (by decide), ix]
        rfl
      · rw [if_neg c2, if_pos rfl]
        rw [m_isWord ok_strip six_strip h4, ob_some, up_up]
        try dsimp only
        by_cases c3 : w_strip = wdW B n q
        · have ix : wIx wLT (wdW B n q) = some 3 := ((wIx_no c0).trans (congrArg (Option.map fun k => k + 1) ((wIx_no c1).trans (congrArg (Option.map fun k => k + 1) ((wIx_no c2).trans (congrArg (Option.map fun k => k + 1) (wIx_yes c3)))))))
          rw [if_pos c3, if_neg (by decide), ix]
          rfl
        · rw [if_neg c3, if_pos rfl]
          rw [m_isWord ok_sell six_sell h4, ob_some, up_up]
          try dsimp only
          by_cases c4 : w_sell = wdW B n q
          · have ix : wIx wLT (wdW B n q) = some 4 := ((wIx_no c0).trans (congrArg (Option.map fun k => k + 1) ((wIx_no c1).trans (congrArg (Option.map fun k => k + 1) ((wIx_no c2).trans (congrArg (Option.map fun k => k + 1) ((wIx_no c3).trans (congrArg (Option.map fun k => k + 1) (wIx_yes c4)))))))))
            rw [if_pos c4, if_neg (by decide), ix]
            rfl
          · rw [if_neg c4, if_pos rfl]
            rw [m_isWord ok_day six_day h4, ob_some, up_up]
            try dsimp only
            by_cases c5 : w_day = wdW B n q
            · have ix : wIx wLT (wdW B n q) = some 5 := ((wIx_no c0).trans (congrArg (Option.map fun k => k + 1) ((wIx_no c1).trans (congrArg (Option.map fun k => k + 1) ((wIx_no c2).trans (congrArg (Option.map fun k => k + 1) ((wIx_no c3).trans (congrArg (Option.map fun k => k + 1) ((wIx_no c4).trans (congrArg (Option.map fun k => k + 1) (wIx_yes c5)))))))))))
              rw [if_pos c5, if_neg (by decide), ix]
              rfl
            · rw [if_neg c5, if_pos rfl]
              rw [m_isWord ok_again six_again h4, ob_some, up_up]
              try dsimp only
              by_cases c6 : w_again = wdW B n q
              · have ix : wIx wLT (wdW B n q) = some 6 := ((wIx_no c0).trans (congrArg (Option.map fun k => k + 1) ((wIx_no c1).trans (congrArg (Option.map fun k => k + 1) ((wIx_no c2).trans (congrArg (Option.map fun k => k + 1) ((wIx_no c3).trans (congrArg (Option.map fun k => k + 1) ((wIx_no c4).trans (congrArg (Option.map fun k => k + 1) ((wIx_no c5).trans (congrArg (Option.map fun k => k + 1) (wIx_yes c6)))))))))))))
                rw [if_pos c6, if_neg (by decide), ix, ob_some]
                rfl
              · have ix : wIx wLT (wdW B n q) = none := ((wIx_no c0).trans (congrArg (Option.map fun k => k + 1) ((wIx_no c1).trans (congrArg (Option.map fun k => k + 1) ((wIx_no c2).trans (congrArg (Option.map fun k => k + 1) ((wIx_no c3).trans (congrArg (Option.map fun k => k + 1) ((wIx_no c4).trans (congrArg (Option.map fun k => k + 1) ((wIx_no c5).trans (congrArg (Option.map fun k => k + 1) ((wIx_no c6).trans (congrArg (Option.map fun k => k + 1) rfl))))))))))))))
                rw [if_neg c6, if_pos rfl, ix, ob_some]
                rfl
theorem m_knownHere (h : mR B n J q) : f_m_knownHere297 J = some (oI (wIx wLH (wdW B n q)), if wIx wLH (wdW B n q) = none then ab_up1 J 47 4 (Int32.ofNat q) else ab_up1 J 47 4 (Int32.ofNat (wdE B n q))) := by
  obtain ⟨h1, h2, h3, h4⟩ := mR_blanks h
  obtain ⟨o1, o2, o3, o4⟩ := scn_ok (P := ltP B) h1
  unfold f_m_knownHere297
  rw [m_takes ok_hour six_hour h, ob_some]
  try dsimp only
  by_cases c0 : w_hour = wdW B n q
  · have ix : wIx wLH (wdW B n q) = some 0 := (wIx_yes c0)
    rw [if_pos c0, if_pos c0, if_neg (by decide), ix]
    rfl
  · rw [if_neg c0, if_neg c0, if_pos rfl]
    rw [m_takes ok_kind six_kind h4, ob_some, up_up, up_up]
    try dsimp only
    by_cases c1 : w_kind = wdW B n q
    · have ix : wIx wLH (wdW B n q) = some 1 := ((wIx_no c0).trans (congrArg (Option.map fun k => k + 1) (wIx_yes c1)))
      rw [if_pos c1, if_pos c1, if_neg (by decide), ix]
      rfl
    · rw [if_neg c1, if_neg c1, if_pos rfl]
      rw [m_takes ok_age six_age h4, ob_some, up_up, up_up]
      try dsimp only
      by_cases c2 : w_age = wdW B n q
      · have ix : wIx wLH (wdW B n q) = some 2 := ((wIx_no c0).trans (congrArg (Option.map fun k => k + 1) ((wIx_no c1).trans (congrArg (Option.map fun k => k + 1) (wIx_yes c2)))))
        rw [if_pos c2, if_pos c2, if_neg (by decide), ix]
        rfl
      · rw [if_neg c2, if_neg c2, if_pos rfl]
        rw [m_takes ok_day six_day h4, ob_some, up_up, up_up]
        try dsimp only
        by_cases c3 : w_day = wdW B n q
        · have ix : wIx wLH (wdW B n q) = some 3 := ((wIx_no c0).trans (congrArg (Option.map fun k => k + 1) ((wIx_no c1).trans (congrArg (Option.map fun k => k + 1) ((wIx_no c2).trans (congrArg (Option.map fun k => k + 1) (wIx_yes c3)))))))
          rw [if_pos c3, if_pos c3, if_neg (by decide), ix]
          rfl
        · rw [if_neg c3, if_neg c3, if_pos rfl]
          rw [m_takes ok_client six_client h4, ob_some, up_up, up_up]
          try dsimp only
          by_cases c4 : w_client = wdW B n q
          · have ix : wIx wLH (wdW B n q) = some 4 := ((wIx_no c0).trans (congrArg (Option.map fun k => k + 1) ((wIx_no c1).trans (congrArg (Option.map fun k => k + 1) ((wIx_no c2).trans (congrArg (Option.map fun k => k + 1) ((wIx_no c3).trans (congrArg (Option.map fun k => k + 1) (wIx_yes c4)))))))))
            rw [if_pos c4, if_pos c4, if_neg (by decide), ix]
            rfl
          · rw [if_neg c4, if_neg c4, if_pos rfl]
            rw [m_takes ok_seams six_seams h4, ob_some, up_up, up_up]
            try dsimp only
            by_cases c5 : w_seams = wdW B n q
            · have ix : wIx wLH (wdW B n q) = some 5 := ((wIx_no c0).trans (congrArg (Option.map fun k => k + 1) ((wIx_no c1).trans (congrArg (Option.map fun k => k + 1) ((wIx_no c2).trans (congrArg (Option.map fun k => k + 1) ((wIx_no c3).trans (congrArg (Option.map fun k => k + 1) ((wIx_no c4).trans (congrArg (Option.map fun k => k + 1) (wIx_yes c5)))))))))))
              rw [if_pos c5, if_pos c5, if_neg (by decide), ix, ob_some]
              rfl
            · have ix : wIx wLH (wdW B n q) = none := ((wIx_no c0).trans (congrArg (Option.map fun k => k + 1) ((wIx_no c1).trans (congrArg (Option.map fun k => k + 1) ((wIx_no c2).trans (congrArg (Option.map fun k => k + 1) ((wIx_no c3).trans (congrArg (Option.map fun k => k + 1) ((wIx_no c4).trans (congrArg (Option.map fun k => k + 1) ((wIx_no c5).trans (congrArg (Option.map fun k => k + 1) rfl))))))))))))
              rw [if_neg c5, if_neg c5, if_pos rfl, ix, ob_some]
              rfl
end CHAIN
