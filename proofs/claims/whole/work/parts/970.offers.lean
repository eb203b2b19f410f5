/-! ready made: offers, line; each argument by itself (written by ops/gen970.py) -/
noncomputable def oB (p0 : Int32) (I : MJ) (s1 : Int64 × Int64 × Int32) : Option ((Int64 × Int64 × Int32) ⊕ (Int64 × Int64)) :=
  (if s1.2.2 < p0 then
  (Option.bind (f_x_wholeOf225 s1.1 s1.2.1 I) fun v4 =>
  (Option.bind (ldv ((v4.toInt64) * ((v4 + (1 : Int32)).toInt64)) (2 : Int64)) fun v5 =>
  (Option.bind (f_x_commonPart226 ((v5 * s1.2.1) + ((((9 : Int32) - v4).toInt64) * s1.1)) (s1.2.1 * (10 : Int64)) I) fun v6 =>
  (Option.bind (α := Int64)
  (if 0 < (lg_cmp v6 (0 : Int64)) then
  (Option.bind (ldv ((v5 * s1.2.1) + ((((9 : Int32) - v4).toInt64) * s1.1)) v6) fun v10 =>
  some v10
  )
  else
  some ((v5 * s1.2.1) + ((((9 : Int32) - v4).toInt64) * s1.1))
  )
  fun b7 =>
  (Option.bind (α := Int64)
  (if 0 < (lg_cmp v6 (0 : Int64)) then
  (Option.bind (ldv (s1.2.1 * (10 : Int64)) v6) fun v9 =>
  some v9
  )
  else
  some (s1.2.1 * (10 : Int64))
  )
  fun b8 =>
  some (.inl (b7, b8, (s1.2.2 + (1 : Int32))))
  )
  )
  )
  )
  )
  else
  some (.inr (s1.1, s1.2.1))
  )

theorem x_mean_eq (p0 p1 : Int32) (I : MJ) : f_x_meanPrice224 p0 p1 I = Option.bind (wh (oB p0 I) ((9 : Int64), (2 : Int64), (1 : Int32))) (fun b2 => some (if p1 = 0 then b2.1 else b2.2)) := by
  show Option.bind (wh (oB p0 I) ((9 : Int64), (2 : Int64), (1 : Int32))) _ = _
  congr 1
  funext b2
  rw [o_ite]
  rfl
theorem xc_1 (I : MJ) : f_x_commonPart226 (65 : Int64) (20 : Int64) I = some (5 : Int64) := by
  unfold f_x_commonPart226
  refine (congrArg (fun z => Option.bind z _) ((wh_iff _ _ (5 : Int64)).mpr ⟨60, ?_⟩)).trans ?_
  · decide +kernel
  · rfl
theorem xm_1 (p0 : Int32) (I : MJ) (h : (1 : Int32) < p0) : oB p0 I ((9 : Int64), (2 : Int64), (1 : Int32)) = some (.inl ((13 : Int64), (4 : Int64), (2 : Int32))) := by
  unfold oB
  dsimp only
  rw [if_pos h, show f_x_wholeOf225 (9 : Int64) (2 : Int64) I = some (4 : Int32) from rfl, ob_some, show ldv (((4 : Int32).toInt64) * (((4 : Int32) + (1 : Int32)).toInt64)) (2 : Int64) = some (10 : Int64) from by decide +kernel, ob_some, show (((10 : Int64) * (2 : Int64)) + ((((9 : Int32) - (4 : Int32)).toInt64) * (9 : Int64))) = (65 : Int64) from by decide +kernel, show ((2 : Int64) * (10 : Int64)) = (20 : Int64) from by decide +kernel, xc_1, ob_some, if_pos (show 0 < lg_cmp (5 : Int64) (0 : Int64) from by decide +kernel), show ldv (65 : Int64) (5 : Int64) = some (13 : Int64) from by decide +kernel, ob_some, ob_some, if_pos (show 0 < lg_cmp (5 : Int64) (0 : Int64) from by decide +kernel), show ldv (20 : Int64) (5 : Int64) = some (4 : Int64) from by decide +kernel]
  rfl
theorem xc_2 (I : MJ) : f_x_commonPart226 (102 : Int64) (40 : Int64) I = some (2 : Int64) := by
  unfold f_x_commonPart226
  refine (congrArg (fun z => Option.bind z _) ((wh_iff _ _ (2 : Int64)).mpr ⟨60, ?_⟩)).trans ?_
  · decide +kernel
  · rfl
theorem xm_2 (p0 : Int32) (I : MJ) (h : (2 : Int32) < p0) : oB p0 I ((13 : Int64), (4 : Int64), (2 : Int32)) = some (.inl ((51 : Int64), (20 : Int64), (3 : Int32))) := by
  unfold oB
  dsimp only
  rw [if_pos h, show f_x_wholeOf225 (13 : Int64) (4 : Int64) I = some (3 : Int32) from rfl, ob_some, show ldv (((3 : Int32).toInt64) * (((3 : Int32) + (1 : Int32)).toInt64)) (2 : Int64) = some (6 : Int64) from by decide +kernel, ob_some, show (((6 : Int64) * (4 : Int64)) + ((((9 : Int32) - (3 : Int32)).toInt64) * (13 : Int64))) = (102 : Int64) from by decide +kernel, show ((4 : Int64) * (10 : Int64)) = (40 : Int64) from by decide +kernel, xc_2, ob_some, if_pos (show 0 < lg_cmp (2 : Int64) (0 : Int64) from by decide +kernel), show ldv (102 : Int64) (2 : Int64) = some (51 : Int64) from by decide +kernel, ob_some, ob_some, if_pos (show 0 < lg_cmp (2 : Int64) (0 : Int64) from by decide +kernel), show ldv (40 : Int64) (2 : Int64) = some (20 : Int64) from by decide +kernel]
  rfl
theorem xc_3 (I : MJ) : f_x_commonPart226 (417 : Int64) (200 : Int64) I = some (1 : Int64) := by
  unfold f_x_commonPart226
  refine (congrArg (fun z => Option.bind z _) ((wh_iff _ _ (1 : Int64)).mpr ⟨60, ?_⟩)).trans ?_
  · decide +kernel
  · rfl
theorem xm_3 (p0 : Int32) (I : MJ) (h : (3 : Int32) < p0) : oB p0 I ((51 : Int64), (20 : Int64), (3 : Int32)) = some (.inl ((417 : Int64), (200 : Int64), (4 : Int32))) := by
  unfold oB
  dsimp only
  rw [if_pos h, show f_x_wholeOf225 (51 : Int64) (20 : Int64) I = some (2 : Int32) from rfl, ob_some, show ldv (((2 : Int32).toInt64) * (((2 : Int32) + (1 : Int32)).toInt64)) (2 : Int64) = some (3 : Int64) from by decide +kernel, ob_some, show (((3 : Int64) * (20 : Int64)) + ((((9 : Int32) - (2 : Int32)).toInt64) * (51 : Int64))) = (417 : Int64) from by decide +kernel, show ((20 : Int64) * (10 : Int64)) = (200 : Int64) from by decide +kernel, xc_3, ob_some, if_pos (show 0 < lg_cmp (1 : Int64) (0 : Int64) from by decide +kernel), show ldv (417 : Int64) (1 : Int64) = some (417 : Int64) from by decide +kernel, ob_some, ob_some, if_pos (show 0 < lg_cmp (1 : Int64) (0 : Int64) from by decide +kernel), show ldv (200 : Int64) (1 : Int64) = some (200 : Int64) from by decide +kernel]
  rfl
theorem xc_4 (I : MJ) : f_x_commonPart226 (3519 : Int64) (2000 : Int64) I = some (1 : Int64) := by
  unfold f_x_commonPart226
  refine (congrArg (fun z => Option.bind z _) ((wh_iff _ _ (1 : Int64)).mpr ⟨60, ?_⟩)).trans ?_
  · decide +kernel
  · rfl
theorem xm_4 (p0 : Int32) (I : MJ) (h : (4 : Int32) < p0) : oB p0 I ((417 : Int64), (200 : Int64), (4 : Int32)) = some (.inl ((3519 : Int64), (2000 : Int64), (5 : Int32))) := by
  unfold oB
  dsimp only
  rw [if_pos h, show f_x_wholeOf225 (417 : Int64) (200 : Int64) I = some (2 : Int32) from rfl, ob_some, show ldv (((2 : Int32).toInt64) * (((2 : Int32) + (1 : Int32)).toInt64)) (2 : Int64) = some (3 : Int64) from by decide +kernel, ob_some, show (((3 : Int64) * (200 : Int64)) + ((((9 : Int32) - (2 : Int32)).toInt64) * (417 : Int64))) = (3519 : Int64) from by decide +kernel, show ((200 : Int64) * (10 : Int64)) = (2000 : Int64) from by decide +kernel, xc_4, ob_some, if_pos (show 0 < lg_cmp (1 : Int64) (0 : Int64) from by decide +kernel), show ldv (3519 : Int64) (1 : Int64) = some (3519 : Int64) from by decide +kernel, ob_some, ob_some, if_pos (show 0 < lg_cmp (1 : Int64) (0 : Int64) from by decide +kernel), show ldv (2000 : Int64) (1 : Int64) = some (2000 : Int64) from by decide +kernel]
  rfl
theorem xc_5 (I : MJ) : f_x_commonPart226 (30152 : Int64) (20000 : Int64) I = some (8 : Int64) := by
  unfold f_x_commonPart226
  refine (congrArg (fun z => Option.bind z _) ((wh_iff _ _ (8 : Int64)).mpr ⟨60, ?_⟩)).trans ?_
  · decide +kernel
  · rfl
theorem xm_5 (p0 : Int32) (I : MJ) (h : (5 : Int32) < p0) : oB p0 I ((3519 : Int64), (2000 : Int64), (5 : Int32)) = some (.inl ((3769 : Int64), (2500 : Int64), (6 : Int32))) := by
  unfold oB
  dsimp only
  rw [if_pos h, show f_x_wholeOf225 (3519 : Int64) (2000 : Int64) I = some (1 : Int32) from rfl, ob_some, show ldv (((1 : Int32).toInt64) * (((1 : Int32) + (1 : Int32)).toInt64)) (2 : Int64) = some (1 : Int64) from by decide +kernel, ob_some, show (((1 : Int64) * (2000 : Int64)) + ((((9 : Int32) - (1 : Int32)).toInt64) * (3519 : Int64))) = (30152 : Int64) from by decide +kernel, show ((2000 : Int64) * (10 : Int64)) = (20000 : Int64) from by decide +kernel, xc_5, ob_some, if_pos (show 0 < lg_cmp (8 : Int64) (0 : Int64) from by decide +kernel), show ldv (30152 : Int64) (8 : Int64) = some (3769 : Int64) from by decide +kernel, ob_some, ob_some, if_pos (show 0 < lg_cmp (8 : Int64) (0 : Int64) from by decide +kernel), show ldv (20000 : Int64) (8 : Int64) = some (2500 : Int64) from by decide +kernel]
  rfl
theorem xc_6 (I : MJ) : f_x_commonPart226 (32652 : Int64) (25000 : Int64) I = some (4 : Int64) := by
  unfold f_x_commonPart226
  refine (congrArg (fun z => Option.bind z _) ((wh_iff _ _ (4 : Int64)).mpr ⟨60, ?_⟩)).trans ?_
  · decide +kernel
  · rfl
theorem xm_6 (p0 : Int32) (I : MJ) (h : (6 : Int32) < p0) : oB p0 I ((3769 : Int64), (2500 : Int64), (6 : Int32)) = some (.inl ((8163 : Int64), (6250 : Int64), (7 : Int32))) := by
  unfold oB
  dsimp only
  rw [if_pos h, show f_x_wholeOf225 (3769 : Int64) (2500 : Int64) I = some (1 : Int32) from rfl, ob_some, show ldv (((1 : Int32).toInt64) * (((1 : Int32) + (1 : Int32)).toInt64)) (2 : Int64) = some (1 : Int64) from by decide +kernel, ob_some, show (((1 : Int64) * (2500 : Int64)) + ((((9 : Int32) - (1 : Int32)).toInt64) * (3769 : Int64))) = (32652 : Int64) from by decide +kernel, show ((2500 : Int64) * (10 : Int64)) = (25000 : Int64) from by decide +kernel, xc_6, ob_some, if_pos (show 0 < lg_cmp (4 : Int64) (0 : Int64) from by decide +kernel), show ldv (32652 : Int64) (4 : Int64) = some (8163 : Int64) from by decide +kernel, ob_some, ob_some, if_pos (show 0 < lg_cmp (4 : Int64) (0 : Int64) from by decide +kernel), show ldv (25000 : Int64) (4 : Int64) = some (6250 : Int64) from by decide +kernel]
  rfl
theorem xc_7 (I : MJ) : f_x_commonPart226 (71554 : Int64) (62500 : Int64) I = some (2 : Int64) := by
  unfold f_x_commonPart226
  refine (congrArg (fun z => Option.bind z _) ((wh_iff _ _ (2 : Int64)).mpr ⟨60, ?_⟩)).trans ?_
  · decide +kernel
  · rfl
theorem xm_7 (p0 : Int32) (I : MJ) (h : (7 : Int32) < p0) : oB p0 I ((8163 : Int64), (6250 : Int64), (7 : Int32)) = some (.inl ((35777 : Int64), (31250 : Int64), (8 : Int32))) := by
  unfold oB
  dsimp only
  rw [if_pos h, show f_x_wholeOf225 (8163 : Int64) (6250 : Int64) I = some (1 : Int32) from rfl, ob_some, show ldv (((1 : Int32).toInt64) * (((1 : Int32) + (1 : Int32)).toInt64)) (2 : Int64) = some (1 : Int64) from by decide +kernel, ob_some, show (((1 : Int64) * (6250 : Int64)) + ((((9 : Int32) - (1 : Int32)).toInt64) * (8163 : Int64))) = (71554 : Int64) from by decide +kernel, show ((6250 : Int64) * (10 : Int64)) = (62500 : Int64) from by decide +kernel, xc_7, ob_some, if_pos (show 0 < lg_cmp (2 : Int64) (0 : Int64) from by decide +kernel), show ldv (71554 : Int64) (2 : Int64) = some (35777 : Int64) from by decide +kernel, ob_some, ob_some, if_pos (show 0 < lg_cmp (2 : Int64) (0 : Int64) from by decide +kernel), show ldv (62500 : Int64) (2 : Int64) = some (31250 : Int64) from by decide +kernel]
  rfl
theorem xmean_1 (I : MJ) : wh (oB (1 : Int32) I) ((9 : Int64), (2 : Int64), (1 : Int32)) = some ((9 : Int64), (2 : Int64)) := wh_inr (show oB (1 : Int32) I _ = some (.inr _) from if_neg (by decide))
theorem xmean_2 (I : MJ) : wh (oB (2 : Int32) I) ((9 : Int64), (2 : Int64), (1 : Int32)) = some ((13 : Int64), (4 : Int64)) := (wh_inl (xm_1 (2 : Int32) I (by decide))).trans (wh_inr (show oB (2 : Int32) I _ = some (.inr _) from if_neg (by decide)))
theorem xmean_3 (I : MJ) : wh (oB (3 : Int32) I) ((9 : Int64), (2 : Int64), (1 : Int32)) = some ((51 : Int64), (20 : Int64)) := (wh_inl (xm_1 (3 : Int32) I (by decide))).trans ((wh_inl (xm_2 (3 : Int32) I (by decide))).trans (wh_inr (show oB (3 : Int32) I _ = some (.inr _) from if_neg (by decide))))
theorem xmean_4 (I : MJ) : wh (oB (4 : Int32) I) ((9 : Int64), (2 : Int64), (1 : Int32)) = some ((417 : Int64), (200 : Int64)) := (wh_inl (xm_1 (4 : Int32) I (by decide))).trans ((wh_inl (xm_2 (4 : Int32) I (by decide))).trans ((wh_inl (xm_3 (4 : Int32) I (by decide))).trans (wh_inr (show oB (4 : Int32) I _ = some (.inr _) from if_neg (by decide)))))
theorem xmean_5 (I : MJ) : wh (oB (5 : Int32) I) ((9 : Int64), (2 : Int64), (1 : Int32)) = some ((3519 : Int64), (2000 : Int64)) := (wh_inl (xm_1 (5 : Int32) I (by decide))).trans ((wh_inl (xm_2 (5 : Int32) I (by decide))).trans ((wh_inl (xm_3 (5 : Int32) I (by decide))).trans ((wh_inl (xm_4 (5 : Int32) I (by decide))).trans (wh_inr (show oB (5 : Int32) I _ = some (.inr _) from if_neg (by decide))))))
theorem xmean_6 (I : MJ) : wh (oB (6 : Int32) I) ((9 : Int64), (2 : Int64), (1 : Int32)) = some ((3769 : Int64), (2500 : Int64)) := (wh_inl (xm_1 (6 : Int32) I (by decide))).trans ((wh_inl (xm_2 (6 : Int32) I (by decide))).trans ((wh_inl (xm_3 (6 : Int32) I (by decide))).trans ((wh_inl (xm_4 (6 : Int32) I (by decide))).trans ((wh_inl (xm_5 (6 : Int32) I (by decide))).trans (wh_inr (show oB (6 : Int32) I _ = some (.inr _) from if_neg (by decide)))))))
theorem xmean_7 (I : MJ) : wh (oB (7 : Int32) I) ((9 : Int64), (2 : Int64), (1 : Int32)) = some ((8163 : Int64), (6250 : Int64)) := (wh_inl (xm_1 (7 : Int32) I (by decide))).trans ((wh_inl (xm_2 (7 : Int32) I (by decide))).trans ((wh_inl (xm_3 (7 : Int32) I (by decide))).trans ((wh_inl (xm_4 (7 : Int32) I (by decide))).trans ((wh_inl (xm_5 (7 : Int32) I (by decide))).trans ((wh_inl (xm_6 (7 : Int32) I (by decide))).trans (wh_inr (show oB (7 : Int32) I _ = some (.inr _) from if_neg (by decide))))))))
theorem xmean_8 (I : MJ) : wh (oB (8 : Int32) I) ((9 : Int64), (2 : Int64), (1 : Int32)) = some ((35777 : Int64), (31250 : Int64)) := (wh_inl (xm_1 (8 : Int32) I (by decide))).trans ((wh_inl (xm_2 (8 : Int32) I (by decide))).trans ((wh_inl (xm_3 (8 : Int32) I (by decide))).trans ((wh_inl (xm_4 (8 : Int32) I (by decide))).trans ((wh_inl (xm_5 (8 : Int32) I (by decide))).trans ((wh_inl (xm_6 (8 : Int32) I (by decide))).trans ((wh_inl (xm_7 (8 : Int32) I (by decide))).trans (wh_inr (show oB (8 : Int32) I _ = some (.inr _) from if_neg (by decide)))))))))
noncomputable def oM (p1 : Int32) (s1 : Int64 × Int64 × Int32) : Option ((Int64 × Int64 × Int32) ⊕ Int64) :=
  (if p1 < s1.2.2 then
  some (.inr s1.1)
  else
  (Option.bind (wh (β := Int64) (fun (s3 : Int64 × Int32) =>
  (if s3.2 < (10 : Int32) then
  (Option.bind (α := Int64)
  (if (lg_cmp ((s3.2.toInt64) * s1.2.1) s1.1) < 0 then
  some ((s3.2.toInt64) * s1.2.1)
  else
  some s1.1
  )
  fun b5 =>
  some (.inl ((s3.1 + b5), (s3.2 + (1 : Int32))))
  )
  else
  some (.inr s3.1)
  )
  ) ((0 : Int64), (0 : Int32))) fun b4 =>
  some (.inl (b4, (s1.2.1 * (10 : Int64)), (s1.2.2 + (1 : Int32))))
  )
  )

theorem m_mean_eq (p1 : Int32) (I : MJ) : f_m_meanOf361 p1 I = wh (oM p1) ((45 : Int64), (10 : Int64), (2 : Int32)) := by
  show Option.bind (wh (oM p1) ((45 : Int64), (10 : Int64), (2 : Int32))) (fun b => some b) = _
  cases wh (oM p1) ((45 : Int64), (10 : Int64), (2 : Int32)) <;> rfl
theorem mm_2 (p1 : Int32) (h : ¬ p1 < (2 : Int32)) : oM p1 ((45 : Int64), (10 : Int64), (2 : Int32)) = some (.inl ((325 : Int64), (100 : Int64), (3 : Int32))) := by
  unfold oM
  dsimp only
  rw [if_neg h]
  refine (congrArg (fun z => Option.bind z _) ((wh_iff _ _ (325 : Int64)).mpr ⟨11, ?_⟩)).trans ?_
  · decide +kernel
  · rfl
theorem mm_3 (p1 : Int32) (h : ¬ p1 < (3 : Int32)) : oM p1 ((325 : Int64), (100 : Int64), (3 : Int32)) = some (.inl ((2550 : Int64), (1000 : Int64), (4 : Int32))) := by
  unfold oM
  dsimp only
  rw [if_neg h]
  refine (congrArg (fun z => Option.bind z _) ((wh_iff _ _ (2550 : Int64)).mpr ⟨11, ?_⟩)).trans ?_
  · decide +kernel
  · rfl
theorem mm_4 (p1 : Int32) (h : ¬ p1 < (4 : Int32)) : oM p1 ((2550 : Int64), (1000 : Int64), (4 : Int32)) = some (.inl ((20850 : Int64), (10000 : Int64), (5 : Int32))) := by
  unfold oM
  dsimp only
  rw [if_neg h]
  refine (congrArg (fun z => Option.bind z _) ((wh_iff _ _ (20850 : Int64)).mpr ⟨11, ?_⟩)).trans ?_
  · decide +kernel
  · rfl
theorem mm_5 (p1 : Int32) (h : ¬ p1 < (5 : Int32)) : oM p1 ((20850 : Int64), (10000 : Int64), (5 : Int32)) = some (.inl ((175950 : Int64), (100000 : Int64), (6 : Int32))) := by
  unfold oM
  dsimp only
  rw [if_neg h]
  refine (congrArg (fun z => Option.bind z _) ((wh_iff _ _ (175950 : Int64)).mpr ⟨11, ?_⟩)).trans ?_
  · decide +kernel
  · rfl
theorem mm_6 (p1 : Int32) (h : ¬ p1 < (6 : Int32)) : oM p1 ((175950 : Int64), (100000 : Int64), (6 : Int32)) = some (.inl ((1507600 : Int64), (1000000 : Int64), (7 : Int32))) := by
  unfold oM
  dsimp only
  rw [if_neg h]
  refine (congrArg (fun z => Option.bind z _) ((wh_iff _ _ (1507600 : Int64)).mpr ⟨11, ?_⟩)).trans ?_
  · decide +kernel
  · rfl
theorem mm_7 (p1 : Int32) (h : ¬ p1 < (7 : Int32)) : oM p1 ((1507600 : Int64), (1000000 : Int64), (7 : Int32)) = some (.inl ((13060800 : Int64), (10000000 : Int64), (8 : Int32))) := by
  unfold oM
  dsimp only
  rw [if_neg h]
  refine (congrArg (fun z => Option.bind z _) ((wh_iff _ _ (13060800 : Int64)).mpr ⟨11, ?_⟩)).trans ?_
  · decide +kernel
  · rfl
theorem mm_8 (p1 : Int32) (h : ¬ p1 < (8 : Int32)) : oM p1 ((13060800 : Int64), (10000000 : Int64), (8 : Int32)) = some (.inl ((114486400 : Int64), (100000000 : Int64), (9 : Int32))) := by
  unfold oM
  dsimp only
  rw [if_neg h]
  refine (congrArg (fun z => Option.bind z _) ((wh_iff _ _ (114486400 : Int64)).mpr ⟨11, ?_⟩)).trans ?_
  · decide +kernel
  · rfl
theorem mmean_1 : wh (oM (1 : Int32)) ((45 : Int64), (10 : Int64), (2 : Int32)) = some (45 : Int64) := wh_inr (show oM (1 : Int32) _ = some (.inr _) from if_pos (by decide))
theorem mtens_1 (I : MJ) : f_m_tens362 (1 : Int32) I = some (10 : Int64) := by
  unfold f_m_tens362
  refine (congrArg (fun z => Option.bind z _) ((wh_iff _ _ (10 : Int64)).mpr ⟨12, ?_⟩)).trans ?_
  · decide +kernel
  · rfl
theorem mgcd_1 : wh (β := Int64) (fun (s6 : Int64 × Int64) =>
  (if (lg_cmp s6.2 (0 : Int64)) = 0 then
  some (.inr s6.1)
  else
  (Option.bind (lrm s6.1 s6.2) fun v12 =>
  some (.inl (s6.2, v12))))) ((45 : Int64), (10 : Int64)) = some (5 : Int64) := (wh_iff _ _ _).mpr ⟨60, by decide +kernel⟩
theorem mmean_2 : wh (oM (2 : Int32)) ((45 : Int64), (10 : Int64), (2 : Int32)) = some (325 : Int64) := (wh_inl (mm_2 (2 : Int32) (by decide))).trans (wh_inr (show oM (2 : Int32) _ = some (.inr _) from if_pos (by decide)))
theorem mtens_2 (I : MJ) : f_m_tens362 (2 : Int32) I = some (100 : Int64) := by
  unfold f_m_tens362
  refine (congrArg (fun z => Option.bind z _) ((wh_iff _ _ (100 : Int64)).mpr ⟨12, ?_⟩)).trans ?_
  · decide +kernel
  · rfl
theorem mgcd_2 : wh (β := Int64) (fun (s6 : Int64 × Int64) =>
  (if (lg_cmp s6.2 (0 : Int64)) = 0 then
  some (.inr s6.1)
  else
  (Option.bind (lrm s6.1 s6.2) fun v12 =>
  some (.inl (s6.2, v12))))) ((325 : Int64), (100 : Int64)) = some (25 : Int64) := (wh_iff _ _ _).mpr ⟨60, by decide +kernel⟩
theorem mmean_3 : wh (oM (3 : Int32)) ((45 : Int64), (10 : Int64), (2 : Int32)) = some (2550 : Int64) := (wh_inl (mm_2 (3 : Int32) (by decide))).trans ((wh_inl (mm_3 (3 : Int32) (by decide))).trans (wh_inr (show oM (3 : Int32) _ = some (.inr _) from if_pos (by decide))))
theorem mtens_3 (I : MJ) : f_m_tens362 (3 : Int32) I = some (1000 : Int64) := by
  unfold f_m_tens362
  refine (congrArg (fun z => Option.bind z _) ((wh_iff _ _ (1000 : Int64)).mpr ⟨12, ?_⟩)).trans ?_
  · decide +kernel
  · rfl
theorem mgcd_3 : wh (β := Int64) (fun (s6 : Int64 × Int64) =>
  (if (lg_cmp s6.2 (0 : Int64)) = 0 then
  some (.inr s6.1)
  else
  (Option.bind (lrm s6.1 s6.2) fun v12 =>
  some (.inl (s6.2, v12))))) ((2550 : Int64), (1000 : Int64)) = some (50 : Int64) := (wh_iff _ _ _).mpr ⟨60, by decide +kernel⟩
theorem mmean_4 : wh (oM (4 : Int32)) ((45 : Int64), (10 : Int64), (2 : Int32)) = some (20850 : Int64) := (wh_inl (mm_2 (4 : Int32) (by decide))).trans ((wh_inl (mm_3 (4 : Int32) (by decide))).trans ((wh_inl (mm_4 (4 : Int32) (by decide))).trans (wh_inr (show oM (4 : Int32) _ = some (.inr _) from if_pos (by decide)))))
theorem mtens_4 (I : MJ) : f_m_tens362 (4 : Int32) I = some (10000 : Int64) := by
  unfold f_m_tens362
  refine (congrArg (fun z => Option.bind z _) ((wh_iff _ _ (10000 : Int64)).mpr ⟨12, ?_⟩)).trans ?_
  · decide +kernel
  · rfl
theorem mgcd_4 : wh (β := Int64) (fun (s6 : Int64 × Int64) =>
  (if (lg_cmp s6.2 (0 : Int64)) = 0 then
  some (.inr s6.1)
  else
  (Option.bind (lrm s6.1 s6.2) fun v12 =>
  some (.inl (s6.2, v12))))) ((20850 : Int64), (10000 : Int64)) = some (50 : Int64) := (wh_iff _ _ _).mpr ⟨60, by decide +kernel⟩
theorem mmean_5 : wh (oM (5 : Int32)) ((45 : Int64), (10 : Int64), (2 : Int32)) = some (175950 : Int64) := (wh_inl (mm_2 (5 : Int32) (by decide))).trans ((wh_inl (mm_3 (5 : Int32) (by decide))).trans ((wh_inl (mm_4 (5 : Int32) (by decide))).trans ((wh_inl (mm_5 (5 : Int32) (by decide))).trans (wh_inr (show oM (5 : Int32) _ = some (.inr _) from if_pos (by decide))))))
theorem mtens_5 (I : MJ) : f_m_tens362 (5 : Int32) I = some (100000 : Int64) := by
  unfold f_m_tens362
  refine (congrArg (fun z => Option.bind z _) ((wh_iff _ _ (100000 : Int64)).mpr ⟨12, ?_⟩)).trans ?_
  · decide +kernel
  · rfl
theorem mgcd_5 : wh (β := Int64) (fun (s6 : Int64 × Int64) =>
  (if (lg_cmp s6.2 (0 : Int64)) = 0 then
  some (.inr s6.1)
  else
  (Option.bind (lrm s6.1 s6.2) fun v12 =>
  some (.inl (s6.2, v12))))) ((175950 : Int64), (100000 : Int64)) = some (50 : Int64) := (wh_iff _ _ _).mpr ⟨60, by decide +kernel⟩
theorem mmean_6 : wh (oM (6 : Int32)) ((45 : Int64), (10 : Int64), (2 : Int32)) = some (1507600 : Int64) := (wh_inl (mm_2 (6 : Int32) (by decide))).trans ((wh_inl (mm_3 (6 : Int32) (by decide))).trans ((wh_inl (mm_4 (6 : Int32) (by decide))).trans ((wh_inl (mm_5 (6 : Int32) (by decide))).trans ((wh_inl (mm_6 (6 : Int32) (by decide))).trans (wh_inr (show oM (6 : Int32) _ = some (.inr _) from if_pos (by decide)))))))
theorem mtens_6 (I : MJ) : f_m_tens362 (6 : Int32) I = some (1000000 : Int64) := by
  unfold f_m_tens362
  refine (congrArg (fun z => Option.bind z _) ((wh_iff _ _ (1000000 : Int64)).mpr ⟨12, ?_⟩)).trans ?_
  · decide +kernel
  · rfl
theorem mgcd_6 : wh (β := Int64) (fun (s6 : Int64 × Int64) =>
  (if (lg_cmp s6.2 (0 : Int64)) = 0 then
  some (.inr s6.1)
  else
  (Option.bind (lrm s6.1 s6.2) fun v12 =>
  some (.inl (s6.2, v12))))) ((1507600 : Int64), (1000000 : Int64)) = some (400 : Int64) := (wh_iff _ _ _).mpr ⟨60, by decide +kernel⟩
theorem mmean_7 : wh (oM (7 : Int32)) ((45 : Int64), (10 : Int64), (2 : Int32)) = some (13060800 : Int64) := (wh_inl (mm_2 (7 : Int32) (by decide))).trans ((wh_inl (mm_3 (7 : Int32) (by decide))).trans ((wh_inl (mm_4 (7 : Int32) (by decide))).trans ((wh_inl (mm_5 (7 : Int32) (by decide))).trans ((wh_inl (mm_6 (7 : Int32) (by decide))).trans ((wh_inl (mm_7 (7 : Int32) (by decide))).trans (wh_inr (show oM (7 : Int32) _ = some (.inr _) from if_pos (by decide))))))))
theorem mtens_7 (I : MJ) : f_m_tens362 (7 : Int32) I = some (10000000 : Int64) := by
  unfold f_m_tens362
  refine (congrArg (fun z => Option.bind z _) ((wh_iff _ _ (10000000 : Int64)).mpr ⟨12, ?_⟩)).trans ?_
  · decide +kernel
  · rfl
theorem mgcd_7 : wh (β := Int64) (fun (s6 : Int64 × Int64) =>
  (if (lg_cmp s6.2 (0 : Int64)) = 0 then
  some (.inr s6.1)
  else
  (Option.bind (lrm s6.1 s6.2) fun v12 =>
  some (.inl (s6.2, v12))))) ((13060800 : Int64), (10000000 : Int64)) = some (1600 : Int64) := (wh_iff _ _ _).mpr ⟨60, by decide +kernel⟩
theorem mmean_8 : wh (oM (8 : Int32)) ((45 : Int64), (10 : Int64), (2 : Int32)) = some (114486400 : Int64) := (wh_inl (mm_2 (8 : Int32) (by decide))).trans ((wh_inl (mm_3 (8 : Int32) (by decide))).trans ((wh_inl (mm_4 (8 : Int32) (by decide))).trans ((wh_inl (mm_5 (8 : Int32) (by decide))).trans ((wh_inl (mm_6 (8 : Int32) (by decide))).trans ((wh_inl (mm_7 (8 : Int32) (by decide))).trans ((wh_inl (mm_8 (8 : Int32) (by decide))).trans (wh_inr (show oM (8 : Int32) _ = some (.inr _) from if_pos (by decide)))))))))
theorem mtens_8 (I : MJ) : f_m_tens362 (8 : Int32) I = some (100000000 : Int64) := by
  unfold f_m_tens362
  refine (congrArg (fun z => Option.bind z _) ((wh_iff _ _ (100000000 : Int64)).mpr ⟨12, ?_⟩)).trans ?_
  · decide +kernel
  · rfl
theorem mgcd_8 : wh (β := Int64) (fun (s6 : Int64 × Int64) =>
  (if (lg_cmp s6.2 (0 : Int64)) = 0 then
  some (.inr s6.1)
  else
  (Option.bind (lrm s6.1 s6.2) fun v12 =>
  some (.inl (s6.2, v12))))) ((114486400 : Int64), (100000000 : Int64)) = some (3200 : Int64) := (wh_iff _ _ _).mpr ⟨60, by decide +kernel⟩
theorem rc1 (p : Int32) : (∃ k : Nat, 1 ≤ k ∧ k < 9 ∧ p = Int32.ofNat k) ∨ (p < 1 ∨ (8 : Int32) < p) := by
  by_cases h1 : p < 1
  · exact Or.inr (Or.inl h1)
  · by_cases h2 : (8 : Int32) < p
    · exact Or.inr (Or.inr h2)
    · left
      have h1' := Int32.not_lt.mp h1
      have h2' := Int32.not_lt.mp h2
      rw [Int32.le_iff_toInt_le] at h1' h2'
      have e1 : (1 : Int32).toInt = 1 := rfl
      have e8 : (8 : Int32).toInt = 8 := rfl
      refine ⟨p.toInt.toNat, by omega, by omega, ?_⟩
      rw [← Int32.toInt_inj, Int32.toInt_ofNat_of_lt (by omega)]
      omega
theorem nW1_ok {k : Nat} {I : MJ} (h1 : 1 ≤ k) (h2 : k < 9) : f_x_needWithin38 (Int32.ofNat k) 1 8 I = some (.inr (), I) := by
  unfold f_x_needWithin38
  rw [if_neg (by rw [show (1 : Int32) = Int32.ofNat 1 from rfl, i_lt (by omega) (by omega)]; omega), if_neg (by rw [show (8 : Int32) = Int32.ofNat 8 from rfl, i_lt (by omega) (by omega)]; omega)]
theorem nW1_no {p : Int32} {I : MJ} (h : p < 1 ∨ (8 : Int32) < p) : f_x_needWithin38 p 1 8 I = some (.inl 1, ab_up1 I 0 15 (I 0 15 + 1)) := by
  unfold f_x_needWithin38
  by_cases h1 : p < 1
  · rw [if_pos h1]; rfl
  · rw [if_neg h1, if_pos (h.resolve_left h1)]; rfl
theorem i1_ok {k : Nat} {I : MJ} (h1 : 1 ≤ k) (h2 : k < 9) : f_m_in264 (Int32.ofNat k) 1 8 I = some 1 := by
  unfold f_m_in264
  rw [if_neg (by rw [show (1 : Int32) = Int32.ofNat 1 from rfl, i_lt (by omega) (by omega)]; omega), if_neg (by rw [show (8 : Int32) = Int32.ofNat 8 from rfl, i_lt (by omega) (by omega)]; omega)]
  rfl
theorem i1_no {p : Int32} {I : MJ} (h : p < 1 ∨ (8 : Int32) < p) : f_m_in264 p 1 8 I = some 0 := by
  unfold f_m_in264
  by_cases h1 : p < 1
  · rw [if_pos h1]; rfl
  · rw [if_neg h1, if_pos (h.resolve_left h1)]; rfl
theorem qokL {fx : Option ((Nat ⊕ Int64) × MJ)} {fm : MJ → Option (Int64 × MJ)} {cs : List Nat} {v : Int64} {I : MJ} (hr : rel I) (h1 : fx = some (.inr v, I)) (h2 : fm I = some (v, ab_up1 I 47 0 0)) : ∃ r I1 b I2, fx = some (r, I1) ∧ fm I1 = some (b, I2) ∧ rel I2 ∧ okL cs r b (I2 47 0) := ⟨_, I, v, _, h1, h2, rel_agr hr (agr_up agr_rf rfl), up_eq, rfl⟩
theorem qrefL {fx : Option ((Nat ⊕ Int64) × MJ)} {fm : MJ → Option (Int64 × MJ)} {cs : List Nat} {w : Int32} {E : Nat} {I : MJ} (hE : E < 3) (hr : rel I) (h1 : fx = some (.inl E, ab_up1 I 0 (14 + E) (I 0 (14 + E) + 1))) (h2 : fm (ab_up1 I 0 (14 + E) (I 0 (14 + E) + 1)) = some (0, Jref I E w)) (h3 : okE cs E w) : ∃ r I1 b I2, fx = some (r, I1) ∧ fm I1 = some (b, I2) ∧ rel I2 ∧ okL cs r b (I2 47 0) := ⟨_, _, 0, _, h1, h2, Jref_rel hE hr, by rw [Jref_thrown]; exact h3⟩
theorem op_offers_ok : op_offers rel := by
  intro p q I hr
  rcases rc1 p with ⟨k, h1, h2, rfl⟩ | hp
  · rcases range_cases q (n := 2) (by decide) with ⟨j, hj, rfl⟩ | hq
    · match k, h1, h2, j, hj with
      | 1, h1, h2, 0, hj =>
        refine qokL hr (v := (9 : Int64)) ?_ ?_
        · unfold f_x_offers223
          rw [nW1_ok h1 h2, tb_inr, show f_x_needWithin38 (Int32.ofNat 0) 0 1 I = _ from nW_ok (n := 1) hj (by decide), tb_inr, x_mean_eq, show wh (oB (Int32.ofNat 1) I) _ = _ from xmean_1 I]
          rfl
        · unfold f_m_offers360
          rw [i1_ok h1 h2, ob_some, if_neg (by decide), show f_m_in264 (Int32.ofNat 0) 0 1 _ = _ from in_ok (n := 1) hj (by decide), ob_some, if_neg (by decide), ob_some, bad_0 up_eq, ob_some, if_pos rfl, m_mean_eq, show wh (oM (Int32.ofNat 1)) _ = _ from mmean_1, ob_some, show f_m_tens362 (Int32.ofNat 1) _ = _ from mtens_1 _, ob_some, mgcd_1, ob_some]
          rfl
      | 1, h1, h2, 1, hj =>
        refine qokL hr (v := (2 : Int64)) ?_ ?_
        · unfold f_x_offers223
          rw [nW1_ok h1 h2, tb_inr, show f_x_needWithin38 (Int32.ofNat 1) 0 1 I = _ from nW_ok (n := 1) hj (by decide), tb_inr, x_mean_eq, show wh (oB (Int32.ofNat 1) I) _ = _ from xmean_1 I]
          rfl
        · unfold f_m_offers360
          rw [i1_ok h1 h2, ob_some, if_neg (by decide), show f_m_in264 (Int32.ofNat 1) 0 1 _ = _ from in_ok (n := 1) hj (by decide), ob_some, if_neg (by decide), ob_some, bad_0 up_eq, ob_some, if_pos rfl, m_mean_eq, show wh (oM (Int32.ofNat 1)) _ = _ from mmean_1, ob_some, show f_m_tens362 (Int32.ofNat 1) _ = _ from mtens_1 _, ob_some, mgcd_1, ob_some]
          rfl
      | 2, h1, h2, 0, hj =>
        refine qokL hr (v := (13 : Int64)) ?_ ?_
        · unfold f_x_offers223
          rw [nW1_ok h1 h2, tb_inr, show f_x_needWithin38 (Int32.ofNat 0) 0 1 I = _ from nW_ok (n := 1) hj (by decide), tb_inr, x_mean_eq, show wh (oB (Int32.ofNat 2) I) _ = _ from xmean_2 I]
          rfl
        · unfold f_m_offers360
          rw [i1_ok h1 h2, ob_some, if_neg (by decide), show f_m_in264 (Int32.ofNat 0) 0 1 _ = _ from in_ok (n := 1) hj (by decide), ob_some, if_neg (by decide), ob_some, bad_0 up_eq, ob_some, if_pos rfl, m_mean_eq, show wh (oM (Int32.ofNat 2)) _ = _ from mmean_2, ob_some, show f_m_tens362 (Int32.ofNat 2) _ = _ from mtens_2 _, ob_some, mgcd_2, ob_some]
          rfl
      | 2, h1, h2, 1, hj =>
        refine qokL hr (v := (4 : Int64)) ?_ ?_
        · unfold f_x_offers223
          rw [nW1_ok h1 h2, tb_inr, show f_x_needWithin38 (Int32.ofNat 1) 0 1 I = _ from nW_ok (n := 1) hj (by decide), tb_inr, x_mean_eq, show wh (oB (Int32.ofNat 2) I) _ = _ from xmean_2 I]
          rfl
        · unfold f_m_offers360
          rw [i1_ok h1 h2, ob_some, if_neg (by decide), show f_m_in264 (Int32.ofNat 1) 0 1 _ = _ from in_ok (n := 1) hj (by decide), ob_some, if_neg (by decide), ob_some, bad_0 up_eq, ob_some, if_pos rfl, m_mean_eq, show wh (oM (Int32.ofNat 2)) _ = _ from mmean_2, ob_some, show f_m_tens362 (Int32.ofNat 2) _ = _ from mtens_2 _, ob_some, mgcd_2, ob_some]
          rfl
      | 3, h1, h2, 0, hj =>
        refine qokL hr (v := (51 : Int64)) ?_ ?_
        · unfold f_x_offers223
          rw [nW1_ok h1 h2, tb_inr, show f_x_needWithin38 (Int32.ofNat 0) 0 1 I = _ from nW_ok (n := 1) hj (by decide), tb_inr, x_mean_eq, show wh (oB (Int32.ofNat 3) I) _ = _ from xmean_3 I]
          rfl
        · unfold f_m_offers360
          rw [i1_ok h1 h2, ob_some, if_neg (by decide), show f_m_in264 (Int32.ofNat 0) 0 1 _ = _ from in_ok (n := 1) hj (by decide), ob_some, if_neg (by decide), ob_some, bad_0 up_eq, ob_some, if_pos rfl, m_mean_eq, show wh (oM (Int32.ofNat 3)) _ = _ from mmean_3, ob_some, show f_m_tens362 (Int32.ofNat 3) _ = _ from mtens_3 _, ob_some, mgcd_3, ob_some]
          rfl
      | 3, h1, h2, 1, hj =>
        refine qokL hr (v := (20 : Int64)) ?_ ?_
        · unfold f_x_offers223
          rw [nW1_ok h1 h2, tb_inr, show f_x_needWithin38 (Int32.ofNat 1) 0 1 I = _ from nW_ok (n := 1) hj (by decide), tb_inr, x_mean_eq, show wh (oB (Int32.ofNat 3) I) _ = _ from xmean_3 I]
          rfl
        · unfold f_m_offers360
          rw [i1_ok h1 h2, ob_some, if_neg (by decide), show f_m_in264 (Int32.ofNat 1) 0 1 _ = _ from in_ok (n := 1) hj (by decide), ob_some, if_neg (by decide), ob_some, bad_0 up_eq, ob_some, if_pos rfl, m_mean_eq, show wh (oM (Int32.ofNat 3)) _ = _ from mmean_3, ob_some, show f_m_tens362 (Int32.ofNat 3) _ = _ from mtens_3 _, ob_some, mgcd_3, ob_some]
          rfl
      | 4, h1, h2, 0, hj =>
        refine qokL hr (v := (417 : Int64)) ?_ ?_
        · unfold f_x_offers223
          rw [nW1_ok h1 h2, tb_inr, show f_x_needWithin38 (Int32.ofNat 0) 0 1 I = _ from nW_ok (n := 1) hj (by decide), tb_inr, x_mean_eq, show wh (oB (Int32.ofNat 4) I) _ = _ from xmean_4 I]
          rfl
        · unfold f_m_offers360
          rw [i1_ok h1 h2, ob_some, if_neg (by decide), show f_m_in264 (Int32.ofNat 0) 0 1 _ = _ from in_ok (n := 1) hj (by decide), ob_some, if_neg (by decide), ob_some, bad_0 up_eq, ob_some, if_pos rfl, m_mean_eq, show wh (oM (Int32.ofNat 4)) _ = _ from mmean_4, ob_some, show f_m_tens362 (Int32.ofNat 4) _ = _ from mtens_4 _, ob_some, mgcd_4, ob_some]
          rfl
      | 4, h1, h2, 1, hj =>
        refine qokL hr (v := (200 : Int64)) ?_ ?_
        · unfold f_x_offers223
          rw [nW1_ok h1 h2, tb_inr, show f_x_needWithin38 (Int32.ofNat 1) 0 1 I = _ from nW_ok (n := 1) hj (by decide), tb_inr, x_mean_eq, show wh (oB (Int32.ofNat 4) I) _ = _ from xmean_4 I]
          rfl
        · unfold f_m_offers360
          rw [i1_ok h1 h2, ob_some, if_neg (by decide), show f_m_in264 (Int32.ofNat 1) 0 1 _ = _ from in_ok (n := 1) hj (by decide), ob_some, if_neg (by decide), ob_some, bad_0 up_eq, ob_some, if_pos rfl, m_mean_eq, show wh (oM (Int32.ofNat 4)) _ = _ from mmean_4, ob_some, show f_m_tens362 (Int32.ofNat 4) _ = _ from mtens_4 _, ob_some, mgcd_4, ob_some]
          rfl
      | 5, h1, h2, 0, hj =>
        refine qokL hr (v := (3519 : Int64)) ?_ ?_
        · unfold f_x_offers223
          rw [nW1_ok h1 h2, tb_inr, show f_x_needWithin38 (Int32.ofNat 0) 0 1 I = _ from nW_ok (n := 1) hj (by decide), tb_inr, x_mean_eq, show wh (oB (Int32.ofNat 5) I) _ = _ from xmean_5 I]
          rfl
        · unfold f_m_offers360
          rw [i1_ok h1 h2, ob_some, if_neg (by decide), show f_m_in264 (Int32.ofNat 0) 0 1 _ = _ from in_ok (n := 1) hj (by decide), ob_some, if_neg (by decide), ob_some, bad_0 up_eq, ob_some, if_pos rfl, m_mean_eq, show wh (oM (Int32.ofNat 5)) _ = _ from mmean_5, ob_some, show f_m_tens362 (Int32.ofNat 5) _ = _ from mtens_5 _, ob_some, mgcd_5, ob_some]
          rfl
      | 5, h1, h2, 1, hj =>
        refine qokL hr (v := (2000 : Int64)) ?_ ?_
        · unfold f_x_offers223
          rw [nW1_ok h1 h2, tb_inr, show f_x_needWithin38 (Int32.ofNat 1) 0 1 I = _ from nW_ok (n := 1) hj (by decide), tb_inr, x_mean_eq, show wh (oB (Int32.ofNat 5) I) _ = _ from xmean_5 I]
          rfl
        · unfold f_m_offers360
          rw [i1_ok h1 h2, ob_some, if_neg (by decide), show f_m_in264 (Int32.ofNat 1) 0 1 _ = _ from in_ok (n := 1) hj (by decide), ob_some, if_neg (by decide), ob_some, bad_0 up_eq, ob_some, if_pos rfl, m_mean_eq, show wh (oM (Int32.ofNat 5)) _ = _ from mmean_5, ob_some, show f_m_tens362 (Int32.ofNat 5) _ = _ from mtens_5 _, ob_some, mgcd_5, ob_some]
          rfl
      | 6, h1, h2, 0, hj =>
        refine qokL hr (v := (3769 : Int64)) ?_ ?_
        · unfold f_x_offers223
          rw [nW1_ok h1 h2, tb_inr, show f_x_needWithin38 (Int32.ofNat 0) 0 1 I = _ from nW_ok (n := 1) hj (by decide), tb_inr, x_mean_eq, show wh (oB (Int32.ofNat 6) I) _ = _ from xmean_6 I]
          rfl
        · unfold f_m_offers360
          rw [i1_ok h1 h2, ob_some, if_neg (by decide), show f_m_in264 (Int32.ofNat 0) 0 1 _ = _ from in_ok (n := 1) hj (by decide), ob_some, if_neg (by decide), ob_some, bad_0 up_eq, ob_some, if_pos rfl, m_mean_eq, show wh (oM (Int32.ofNat 6)) _ = _ from mmean_6, ob_some, show f_m_tens362 (Int32.ofNat 6) _ = _ from mtens_6 _, ob_some, mgcd_6, ob_some]
          rfl
      | 6, h1, h2, 1, hj =>
        refine qokL hr (v := (2500 : Int64)) ?_ ?_
        · unfold f_x_offers223
          rw [nW1_ok h1 h2, tb_inr, show f_x_needWithin38 (Int32.ofNat 1) 0 1 I = _ from nW_ok (n := 1) hj (by decide), tb_inr, x_mean_eq, show wh (oB (Int32.ofNat 6) I) _ = _ from xmean_6 I]
          rfl
        · unfold f_m_offers360
          rw [i1_ok h1 h2, ob_some, if_neg (by decide), show f_m_in264 (Int32.ofNat 1) 0 1 _ = _ from in_ok (n := 1) hj (by decide), ob_some, if_neg (by decide), ob_some, bad_0 up_eq, ob_some, if_pos rfl, m_mean_eq, show wh (oM (Int32.ofNat 6)) _ = _ from mmean_6, ob_some, show f_m_tens362 (Int32.ofNat 6) _ = _ from mtens_6 _, ob_some, mgcd_6, ob_some]
          rfl
      | 7, h1, h2, 0, hj =>
        refine qokL hr (v := (8163 : Int64)) ?_ ?_
        · unfold f_x_offers223
          rw [nW1_ok h1 h2, tb_inr, show f_x_needWithin38 (Int32.ofNat 0) 0 1 I = _ from nW_ok (n := 1) hj (by decide), tb_inr, x_mean_eq, show wh (oB (Int32.ofNat 7) I) _ = _ from xmean_7 I]
          rfl
        · unfold f_m_offers360
          rw [i1_ok h1 h2, ob_some, if_neg (by decide), show f_m_in264 (Int32.ofNat 0) 0 1 _ = _ from in_ok (n := 1) hj (by decide), ob_some, if_neg (by decide), ob_some, bad_0 up_eq, ob_some, if_pos rfl, m_mean_eq, show wh (oM (Int32.ofNat 7)) _ = _ from mmean_7, ob_some, show f_m_tens362 (Int32.ofNat 7) _ = _ from mtens_7 _, ob_some, mgcd_7, ob_some]
          rfl
      | 7, h1, h2, 1, hj =>
        refine qokL hr (v := (6250 : Int64)) ?_ ?_
        · unfold f_x_offers223
          rw [nW1_ok h1 h2, tb_inr, show f_x_needWithin38 (Int32.ofNat 1) 0 1 I = _ from nW_ok (n := 1) hj (by decide), tb_inr, x_mean_eq, show wh (oB (Int32.ofNat 7) I) _ = _ from xmean_7 I]
          rfl
        · unfold f_m_offers360
          rw [i1_ok h1 h2, ob_some, if_neg (by decide), show f_m_in264 (Int32.ofNat 1) 0 1 _ = _ from in_ok (n := 1) hj (by decide), ob_some, if_neg (by decide), ob_some, bad_0 up_eq, ob_some, if_pos rfl, m_mean_eq, show wh (oM (Int32.ofNat 7)) _ = _ from mmean_7, ob_some, show f_m_tens362 (Int32.ofNat 7) _ = _ from mtens_7 _, ob_some, mgcd_7, ob_some]
          rfl
      | 8, h1, h2, 0, hj =>
        refine qokL hr (v := (35777 : Int64)) ?_ ?_
        · unfold f_x_offers223
          rw [nW1_ok h1 h2, tb_inr, show f_x_needWithin38 (Int32.ofNat 0) 0 1 I = _ from nW_ok (n := 1) hj (by decide), tb_inr, x_mean_eq, show wh (oB (Int32.ofNat 8) I) _ = _ from xmean_8 I]
          rfl
        · unfold f_m_offers360
          rw [i1_ok h1 h2, ob_some, if_neg (by decide), show f_m_in264 (Int32.ofNat 0) 0 1 _ = _ from in_ok (n := 1) hj (by decide), ob_some, if_neg (by decide), ob_some, bad_0 up_eq, ob_some, if_pos rfl, m_mean_eq, show wh (oM (Int32.ofNat 8)) _ = _ from mmean_8, ob_some, show f_m_tens362 (Int32.ofNat 8) _ = _ from mtens_8 _, ob_some, mgcd_8, ob_some]
          rfl
      | 8, h1, h2, 1, hj =>
        refine qokL hr (v := (31250 : Int64)) ?_ ?_
        · unfold f_x_offers223
          rw [nW1_ok h1 h2, tb_inr, show f_x_needWithin38 (Int32.ofNat 1) 0 1 I = _ from nW_ok (n := 1) hj (by decide), tb_inr, x_mean_eq, show wh (oB (Int32.ofNat 8) I) _ = _ from xmean_8 I]
          rfl
        · unfold f_m_offers360
          rw [i1_ok h1 h2, ob_some, if_neg (by decide), show f_m_in264 (Int32.ofNat 1) 0 1 _ = _ from in_ok (n := 1) hj (by decide), ob_some, if_neg (by decide), ob_some, bad_0 up_eq, ob_some, if_pos rfl, m_mean_eq, show wh (oM (Int32.ofNat 8)) _ = _ from mmean_8, ob_some, show f_m_tens362 (Int32.ofNat 8) _ = _ from mtens_8 _, ob_some, mgcd_8, ob_some]
          rfl
      | 0, h1, _, _, _ => omega
      | k + 9, _, h2, _, _ => omega
      | _, _, _, j + 2, hj => omega
    · refine qrefL (E := 1) (w := 1) (by decide) hr ?_ ?_ (Or.inl ⟨rfl, rfl⟩)
      · unfold f_x_offers223
        rw [nW1_ok h1 h2, tb_inr, show f_x_needWithin38 q 0 1 I = _ from nW_no (n := 1) (by decide) hq]
        rfl
      · unfold f_m_offers360
        rw [i1_ok h1 h2, ob_some, if_neg (by decide), show f_m_in264 q 0 1 _ = _ from in_no (n := 1) (by decide) hq, ob_some, if_pos rfl, ob_some, show f_m_bad268 1 1 1 _ = _ from bad_ref (E := 1) (by decide) (by decide)]
        rfl
  · refine qrefL (E := 1) (w := 1) (by decide) hr ?_ ?_ (Or.inl ⟨rfl, rfl⟩)
    · unfold f_x_offers223
      rw [nW1_no hp]
      rfl
    · unfold f_m_offers360
      rw [i1_no hp, ob_some, if_pos rfl, ob_some, show f_m_bad268 1 1 1 _ = _ from bad_ref (E := 1) (by decide) (by decide)]
      rfl
theorem op_line_ok : op_line rel := by
  intro p I hr
  rcases rc1 p with ⟨k, h1, h2, rfl⟩ | hp
  · match k, h1, h2 with
    | 1, h1, h2 =>
      refine qok0 hr (v := (9 : Int32)) ?_ ?_
      · unfold f_x_line228
        rw [nW1_ok h1 h2, tb_inr]
        rfl
      · unfold f_m_line363
        rw [i1_ok h1 h2, ob_some, if_neg (by decide), ob_some, bad_0 up_eq, ob_some, if_pos rfl]
        rfl
    | 2, h1, h2 =>
      refine qok0 hr (v := (4 : Int32)) ?_ ?_
      · unfold f_x_line228
        rw [nW1_ok h1 h2, tb_inr]
        rw [if_neg (show ¬ Int32.ofNat 2 = (1 : Int32) from by decide), show Int32.ofNat 2 - (1 : Int32) = (1 : Int32) from rfl, x_mean_eq, x_mean_eq, xmean_1, ob_some, ob_some, ob_some, ob_some, if_pos rfl, if_neg (by decide), show f_x_wholeOf225 (9 : Int64) (2 : Int64) I = some (4 : Int32) from rfl]
        rfl
      · unfold f_m_line363
        rw [i1_ok h1 h2, ob_some, if_neg (by decide), ob_some, bad_0 up_eq, ob_some, if_pos rfl]
        rw [if_neg (show ¬ Int32.ofNat 2 = (1 : Int32) from by decide), show Int32.ofNat 2 - (1 : Int32) = (1 : Int32) from rfl, m_mean_eq, mmean_1, ob_some, mtens_1, ob_some]
        rfl
    | 3, h1, h2 =>
      refine qok0 hr (v := (3 : Int32)) ?_ ?_
      · unfold f_x_line228
        rw [nW1_ok h1 h2, tb_inr]
        rw [if_neg (show ¬ Int32.ofNat 3 = (1 : Int32) from by decide), show Int32.ofNat 3 - (1 : Int32) = (2 : Int32) from rfl, x_mean_eq, x_mean_eq, xmean_2, ob_some, ob_some, ob_some, ob_some, if_pos rfl, if_neg (by decide), show f_x_wholeOf225 (13 : Int64) (4 : Int64) I = some (3 : Int32) from rfl]
        rfl
      · unfold f_m_line363
        rw [i1_ok h1 h2, ob_some, if_neg (by decide), ob_some, bad_0 up_eq, ob_some, if_pos rfl]
        rw [if_neg (show ¬ Int32.ofNat 3 = (1 : Int32) from by decide), show Int32.ofNat 3 - (1 : Int32) = (2 : Int32) from rfl, m_mean_eq, mmean_2, ob_some, mtens_2, ob_some]
        rfl
    | 4, h1, h2 =>
      refine qok0 hr (v := (2 : Int32)) ?_ ?_
      · unfold f_x_line228
        rw [nW1_ok h1 h2, tb_inr]
        rw [if_neg (show ¬ Int32.ofNat 4 = (1 : Int32) from by decide), show Int32.ofNat 4 - (1 : Int32) = (3 : Int32) from rfl, x_mean_eq, x_mean_eq, xmean_3, ob_some, ob_some, ob_some, ob_some, if_pos rfl, if_neg (by decide), show f_x_wholeOf225 (51 : Int64) (20 : Int64) I = some (2 : Int32) from rfl]
        rfl
      · unfold f_m_line363
        rw [i1_ok h1 h2, ob_some, if_neg (by decide), ob_some, bad_0 up_eq, ob_some, if_pos rfl]
        rw [if_neg (show ¬ Int32.ofNat 4 = (1 : Int32) from by decide), show Int32.ofNat 4 - (1 : Int32) = (3 : Int32) from rfl, m_mean_eq, mmean_3, ob_some, mtens_3, ob_some]
        rfl
    | 5, h1, h2 =>
      refine qok0 hr (v := (2 : Int32)) ?_ ?_
      · unfold f_x_line228
        rw [nW1_ok h1 h2, tb_inr]
        rw [if_neg (show ¬ Int32.ofNat 5 = (1 : Int32) from by decide), show Int32.ofNat 5 - (1 : Int32) = (4 : Int32) from rfl, x_mean_eq, x_mean_eq, xmean_4, ob_some, ob_some, ob_some, ob_some, if_pos rfl, if_neg (by decide), show f_x_wholeOf225 (417 : Int64) (200 : Int64) I = some (2 : Int32) from rfl]
        rfl
      · unfold f_m_line363
        rw [i1_ok h1 h2, ob_some, if_neg (by decide), ob_some, bad_0 up_eq, ob_some, if_pos rfl]
        rw [if_neg (show ¬ Int32.ofNat 5 = (1 : Int32) from by decide), show Int32.ofNat 5 - (1 : Int32) = (4 : Int32) from rfl, m_mean_eq, mmean_4, ob_some, mtens_4, ob_some]
        rfl
    | 6, h1, h2 =>
      refine qok0 hr (v := (1 : Int32)) ?_ ?_
      · unfold f_x_line228
        rw [nW1_ok h1 h2, tb_inr]
        rw [if_neg (show ¬ Int32.ofNat 6 = (1 : Int32) from by decide), show Int32.ofNat 6 - (1 : Int32) = (5 : Int32) from rfl, x_mean_eq, x_mean_eq, xmean_5, ob_some, ob_some, ob_some, ob_some, if_pos rfl, if_neg (by decide), show f_x_wholeOf225 (3519 : Int64) (2000 : Int64) I = some (1 : Int32) from rfl]
        rfl
      · unfold f_m_line363
        rw [i1_ok h1 h2, ob_some, if_neg (by decide), ob_some, bad_0 up_eq, ob_some, if_pos rfl]
        rw [if_neg (show ¬ Int32.ofNat 6 = (1 : Int32) from by decide), show Int32.ofNat 6 - (1 : Int32) = (5 : Int32) from rfl, m_mean_eq, mmean_5, ob_some, mtens_5, ob_some]
        rfl
    | 7, h1, h2 =>
      refine qok0 hr (v := (1 : Int32)) ?_ ?_
      · unfold f_x_line228
        rw [nW1_ok h1 h2, tb_inr]
        rw [if_neg (show ¬ Int32.ofNat 7 = (1 : Int32) from by decide), show Int32.ofNat 7 - (1 : Int32) = (6 : Int32) from rfl, x_mean_eq, x_mean_eq, xmean_6, ob_some, ob_some, ob_some, ob_some, if_pos rfl, if_neg (by decide), show f_x_wholeOf225 (3769 : Int64) (2500 : Int64) I = some (1 : Int32) from rfl]
        rfl
      · unfold f_m_line363
        rw [i1_ok h1 h2, ob_some, if_neg (by decide), ob_some, bad_0 up_eq, ob_some, if_pos rfl]
        rw [if_neg (show ¬ Int32.ofNat 7 = (1 : Int32) from by decide), show Int32.ofNat 7 - (1 : Int32) = (6 : Int32) from rfl, m_mean_eq, mmean_6, ob_some, mtens_6, ob_some]
        rfl
    | 8, h1, h2 =>
      refine qok0 hr (v := (1 : Int32)) ?_ ?_
      · unfold f_x_line228
        rw [nW1_ok h1 h2, tb_inr]
        rw [if_neg (show ¬ Int32.ofNat 8 = (1 : Int32) from by decide), show Int32.ofNat 8 - (1 : Int32) = (7 : Int32) from rfl, x_mean_eq, x_mean_eq, xmean_7, ob_some, ob_some, ob_some, ob_some, if_pos rfl, if_neg (by decide), show f_x_wholeOf225 (8163 : Int64) (6250 : Int64) I = some (1 : Int32) from rfl]
        rfl
      · unfold f_m_line363
        rw [i1_ok h1 h2, ob_some, if_neg (by decide), ob_some, bad_0 up_eq, ob_some, if_pos rfl]
        rw [if_neg (show ¬ Int32.ofNat 8 = (1 : Int32) from by decide), show Int32.ofNat 8 - (1 : Int32) = (7 : Int32) from rfl, m_mean_eq, mmean_7, ob_some, mtens_7, ob_some]
        rfl
    | 0, h1, _ => omega
    | k + 9, _, h2 => omega
  · refine qref (E := 1) (w := 1) (by decide) hr ?_ ?_ (Or.inl ⟨rfl, rfl⟩)
    · unfold f_x_line228
      rw [nW1_no hp]
      rfl
    · unfold f_m_line363
      rw [i1_no hp, ob_some, if_pos rfl, ob_some, show f_m_bad268 1 1 1 _ = _ from bad_ref (E := 1) (by decide) (by decide)]
      rfl
