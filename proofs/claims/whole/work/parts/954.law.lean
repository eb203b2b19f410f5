/-! the law: one call after another (written by wip/whole/gen_law.py) -/
noncomputable def l_law_body (X : XX) (s1 : Int32 × MJ × GG) : Option ((Int32 × MJ × GG) ⊕ (Int32 × MJ × GG)) :=
  (if ((Int32.ofNat X.1) - (7 : Int32)) < s1.1 then
  some (.inr ((1 : Int32), s1.2.1, s1.2.2))
  else
  (Option.bind (rds X s1.1) fun v2 =>
  (if (v2 &&& (63 : Int32)) = (0 : Int32) then
  (Option.bind (rds X (s1.1 + (1 : Int32))) fun v3 =>
  (Option.bind (rds X (s1.1 + (2 : Int32))) fun v4 =>
  (Option.bind (rds X (s1.1 + (3 : Int32))) fun v5 =>
  (Option.bind (rds X (s1.1 + (4 : Int32))) fun v6 =>
  (Option.bind (rds X (s1.1 + (5 : Int32))) fun v7 =>
  (Option.bind (f_x_feed17 v3 v4 v5 v6 v7 s1.2.1) fun w8 =>
  (Option.bind (rds X (s1.1 + (1 : Int32))) fun v9 =>
  (Option.bind (rds X (s1.1 + (2 : Int32))) fun v10 =>
  (Option.bind (rds X (s1.1 + (3 : Int32))) fun v11 =>
  (Option.bind (rds X (s1.1 + (4 : Int32))) fun v12 =>
  (Option.bind (rds X (s1.1 + (5 : Int32))) fun v13 =>
  (Option.bind (f_m_feed266 v9 v10 v11 v12 v13 w8.2) fun w14 =>
  (if w8.1 = w14.1 then
  some (.inl ((s1.1 + (7 : Int32)), w14.2, s1.2.2))
  else
  some (.inr ((0 : Int32), w14.2, s1.2.2))
  )
  )
  )
  )
  )
  )
  )
  )
  )
  )
  )
  )
  )
  else
  (if (v2 &&& (63 : Int32)) = (1 : Int32) then
  (Option.bind (rds X (s1.1 + (1 : Int32))) fun v15 =>
  (Option.bind (f_l_shop35 v15 s1.2.1 s1.2.2) fun w16 =>
  (Option.bind (rds X (s1.1 + (1 : Int32))) fun v17 =>
  (Option.bind (f_m_shop267 v17 w16.2.1) fun w18 =>
  (Option.bind (f_m_thrown265 w18.2) fun v19 =>
  (if v19 = w16.1 then
  (if w16.1 = 0 then
  (Option.bind (rdl w16.2.2 698 (0 : Int32)) fun v20 =>
  (if (lg_cmp v20 (w18.1.toInt64)) = 0 then
  some (.inl ((s1.1 + (7 : Int32)), w18.2, w16.2.2))
  else
  some (.inr ((0 : Int32), w18.2, w16.2.2))
  )
  )
  else
  some (.inl ((s1.1 + (7 : Int32)), w18.2, w16.2.2))
  )
  else
  some (.inr ((0 : Int32), w18.2, w16.2.2))
  )
  )
  )
  )
  )
  )
  else
  (if (v2 &&& (63 : Int32)) = (2 : Int32) then
  (Option.bind (rds X (s1.1 + (1 : Int32))) fun v21 =>
  (Option.bind (rds X (s1.1 + (2 : Int32))) fun v22 =>
  (Option.bind (f_l_pattern66 v21 v22 s1.2.1 s1.2.2) fun w23 =>
  (Option.bind (rds X (s1.1 + (1 : Int32))) fun v24 =>
  (Option.bind (rds X (s1.1 + (2 : Int32))) fun v25 =>
  (Option.bind (f_m_pattern287 v24 v25 w23.2.1) fun w26 =>
  (Option.bind (f_m_thrown265 w26.2) fun v27 =>
  (if v27 = w23.1 then
  (if w23.1 = 0 then
  (Option.bind (rdl w23.2.2 698 (0 : Int32)) fun v28 =>
  (if (lg_cmp v28 (w26.1.toInt64)) = 0 then
  some (.inl ((s1.1 + (7 : Int32)), w26.2, w23.2.2))
  else
  some (.inr ((0 : Int32), w26.2, w23.2.2))
  )
  )
  else
  some (.inl ((s1.1 + (7 : Int32)), w26.2, w23.2.2))
  )
  else
  some (.inr ((0 : Int32), w26.2, w23.2.2))
  )
  )
  )
  )
  )
  )
  )
  )
  else
  (if (v2 &&& (63 : Int32)) = (3 : Int32) then
  (Option.bind (rds X (s1.1 + (1 : Int32))) fun v29 =>
  (Option.bind (f_l_law80 X v29 s1.2.1 s1.2.2) fun w30 =>
  (Option.bind (rds X (s1.1 + (1 : Int32))) fun v31 =>
  (Option.bind (f_m_law292 v31 w30.2.1) fun w32 =>
  (Option.bind (f_m_thrown265 w32.2) fun v33 =>
  (if v33 = w30.1 then
  (if w30.1 = 0 then
  (Option.bind (rdl w30.2.2 698 (0 : Int32)) fun v34 =>
  (if (lg_cmp v34 (w32.1.toInt64)) = 0 then
  some (.inl ((s1.1 + (7 : Int32)), w32.2, w30.2.2))
  else
  some (.inr ((0 : Int32), w32.2, w30.2.2))
  )
  )
  else
  some (.inl ((s1.1 + (7 : Int32)), w32.2, w30.2.2))
  )
  else
  some (.inr ((0 : Int32), w32.2, w30.2.2))
  )
  )
  )
  )
  )
  )
  else
  (if (v2 &&& (63 : Int32)) = (4 : Int32) then
  (Option.bind (rds X (s1.1 + (1 : Int32))) fun v35 =>
  (Option.bind (f_l_work91 v35 s1.2.1 s1.2.2) fun w36 =>
  (Option.bind (rds X (s1.1 + (1 : Int32))) fun v37 =>
  (Option.bind (f_m_work299 v37 w36.2.1) fun w38 =>
  (Option.bind (f_m_thrown265 w38.2) fun v39 =>
  (if v39 = w36.1 then
  (if w36.1 = 0 then
  (Option.bind (rdl w36.2.2 698 (0 : Int32)) fun v40 =>
  (if (lg_cmp v40 (w38.1.toInt64)) = 0 then
  some (.inl ((s1.1 + (7 : Int32)), w38.2, w36.2.2))
  else
  some (.inr ((0 : Int32), w38.2, w36.2.2))
  )
  )
  else
  some (.inl ((s1.1 + (7 : Int32)), w38.2, w36.2.2))
  )
  else
  some (.inr ((0 : Int32), w38.2, w36.2.2))
  )
  )
  )
  )
  )
  )
  else
  (if (v2 &&& (63 : Int32)) = (5 : Int32) then
  (Option.bind (rds X (s1.1 + (1 : Int32))) fun v41 =>
  (Option.bind (f_l_book136 v41 s1.2.1 s1.2.2) fun w42 =>
  (Option.bind (rds X (s1.1 + (1 : Int32))) fun v43 =>
  (Option.bind (f_m_book322 v43 w42.2.1) fun w44 =>
  (Option.bind (f_m_thrown265 w44.2) fun v45 =>
  (if v45 = w42.1 then
  (if w42.1 = 0 then
  (Option.bind (rdl w42.2.2 698 (0 : Int32)) fun v46 =>
  (if (lg_cmp v46 (w44.1.toInt64)) = 0 then
  some (.inl ((s1.1 + (7 : Int32)), w44.2, w42.2.2))
  else
  some (.inr ((0 : Int32), w44.2, w42.2.2))
  )
  )
  else
  some (.inl ((s1.1 + (7 : Int32)), w44.2, w42.2.2))
  )
  else
  some (.inr ((0 : Int32), w44.2, w42.2.2))
  )
  )
  )
  )
  )
  )
  else
  (if (v2 &&& (63 : Int32)) = (6 : Int32) then
  (Option.bind (f_x_fault19 s1.2.1) fun v47 =>
  (Option.bind (f_m_fault323 s1.2.1) fun w48 =>
  (if v47 = w48.1 then
  some (.inl ((s1.1 + (7 : Int32)), w48.2, s1.2.2))
  else
  some (.inr ((0 : Int32), w48.2, s1.2.2))
  )
  )
  )
  else
  (if (v2 &&& (63 : Int32)) = (7 : Int32) then
  (Option.bind (f_x_undo20 s1.2.1) fun w49 =>
  (Option.bind (f_m_undo321 w49.2) fun w50 =>
  (if w49.1 = w50.1 then
  some (.inl ((s1.1 + (7 : Int32)), w50.2, s1.2.2))
  else
  some (.inr ((0 : Int32), w50.2, s1.2.2))
  )
  )
  )
  else
  (if (v2 &&& (63 : Int32)) = (8 : Int32) then
  (Option.bind (rds X (s1.1 + (1 : Int32))) fun v51 =>
  (Option.bind (f_l_told140 v51 s1.2.1 s1.2.2) fun w52 =>
  (Option.bind (rds X (s1.1 + (1 : Int32))) fun v53 =>
  (Option.bind (f_m_told324 v53 w52.2.1) fun w54 =>
  (Option.bind (f_m_thrown265 w54.2) fun v55 =>
  (if v55 = w52.1 then
  (if w52.1 = 0 then
  (Option.bind (rdl w52.2.2 698 (0 : Int32)) fun v56 =>
  (if (lg_cmp v56 (w54.1.toInt64)) = 0 then
  some (.inl ((s1.1 + (7 : Int32)), w54.2, w52.2.2))
  else
  some (.inr ((0 : Int32), w54.2, w52.2.2))
  )
  )
  else
  some (.inl ((s1.1 + (7 : Int32)), w54.2, w52.2.2))
  )
  else
  some (.inr ((0 : Int32), w54.2, w52.2.2))
  )
  )
  )
  )
  )
  )
  else
  (if (v2 &&& (63 : Int32)) = (9 : Int32) then
  (Option.bind (rds X (s1.1 + (1 : Int32))) fun v57 =>
  (Option.bind (rds X (s1.1 + (2 : Int32))) fun v58 =>
  (Option.bind (f_l_bolt145 v57 v58 s1.2.1 s1.2.2) fun w59 =>
  (Option.bind (rds X (s1.1 + (1 : Int32))) fun v60 =>
  (Option.bind (rds X (s1.1 + (2 : Int32))) fun v61 =>
  (Option.bind (f_m_bolt326 v60 v61 w59.2.1) fun w62 =>
  (Option.bind (f_m_thrown265 w62.2) fun v63 =>
  (if v63 = w59.1 then
  (if w59.1 = 0 then
  (Option.bind (rdl w59.2.2 698 (0 : Int32)) fun v64 =>
  (if (lg_cmp v64 (w62.1.toInt64)) = 0 then
  some (.inl ((s1.1 + (7 : Int32)), w62.2, w59.2.2))
  else
  some (.inr ((0 : Int32), w62.2, w59.2.2))
  )
  )
  else
  some (.inl ((s1.1 + (7 : Int32)), w62.2, w59.2.2))
  )
  else
  some (.inr ((0 : Int32), w62.2, w59.2.2))
  )
  )
  )
  )
  )
  )
  )
  )
  else
  (if (v2 &&& (63 : Int32)) = (10 : Int32) then
  (Option.bind (rds X (s1.1 + (1 : Int32))) fun v65 =>
  (Option.bind (rds X (s1.1 + (2 : Int32))) fun v66 =>
  (Option.bind (f_l_client148 v65 v66 s1.2.1 s1.2.2) fun w67 =>
  (Option.bind (rds X (s1.1 + (1 : Int32))) fun v68 =>
  (Option.bind (rds X (s1.1 + (2 : Int32))) fun v69 =>
  (Option.bind (f_m_client327 v68 v69 w67.2.1) fun w70 =>
  (Option.bind (f_m_thrown265 w70.2) fun v71 =>
  (if v71 = w67.1 then
  (if w67.1 = 0 then
  (Option.bind (rdl w67.2.2 698 (0 : Int32)) fun v72 =>
  (if (lg_cmp v72 (w70.1.toInt64)) = 0 then
  some (.inl ((s1.1 + (7 : Int32)), w70.2, w67.2.2))
  else
  some (.inr ((0 : Int32), w70.2, w67.2.2))
  )
  )
  else
  some (.inl ((s1.1 + (7 : Int32)), w70.2, w67.2.2))
  )
  else
  some (.inr ((0 : Int32), w70.2, w67.2.2))
  )
  )
  )
  )
  )
  )
  )
  )
  else
  (if (v2 &&& (63 : Int32)) = (11 : Int32) then
  (Option.bind (rds X (s1.1 + (1 : Int32))) fun v73 =>
  (Option.bind (rds X (s1.1 + (2 : Int32))) fun v74 =>
  (Option.bind (f_l_want156 v73 v74 s1.2.1 s1.2.2) fun w75 =>
  (Option.bind (rds X (s1.1 + (1 : Int32))) fun v76 =>
  (Option.bind (rds X (s1.1 + (2 : Int32))) fun v77 =>
  (Option.bind (f_m_want331 v76 v77 w75.2.1) fun w78 =>
  (Option.bind (f_m_thrown265 w78.2) fun v79 =>
  (if v79 = w75.1 then
  (if w75.1 = 0 then
  (Option.bind (rdl w75.2.2 698 (0 : Int32)) fun v80 =>
  (if (lg_cmp v80 (w78.1.toInt64)) = 0 then
  some (.inl ((s1.1 + (7 : Int32)), w78.2, w75.2.2))
  else
  some (.inr ((0 : Int32), w78.2, w75.2.2))
  )
  )
  else
  some (.inl ((s1.1 + (7 : Int32)), w78.2, w75.2.2))
  )
  else
  some (.inr ((0 : Int32), w78.2, w75.2.2))
  )
  )
  )
  )
  )
  )
  )
  )
  else
  (if (v2 &&& (63 : Int32)) = (12 : Int32) then
  (Option.bind (rds X (s1.1 + (1 : Int32))) fun v81 =>
  (Option.bind (rds X (s1.1 + (2 : Int32))) fun v82 =>
  (Option.bind (f_l_order159 v81 v82 s1.2.1 s1.2.2) fun w83 =>
  (Option.bind (rds X (s1.1 + (1 : Int32))) fun v84 =>
  (Option.bind (rds X (s1.1 + (2 : Int32))) fun v85 =>
  (Option.bind (f_m_order333 v84 v85 w83.2.1) fun w86 =>
  (Option.bind (f_m_thrown265 w86.2) fun v87 =>
  (if v87 = w83.1 then
  (if w83.1 = 0 then
  (Option.bind (rdl w83.2.2 698 (0 : Int32)) fun v88 =>
  (if (lg_cmp v88 (w86.1.toInt64)) = 0 then
  some (.inl ((s1.1 + (7 : Int32)), w86.2, w83.2.2))
  else
  some (.inr ((0 : Int32), w86.2, w83.2.2))
  )
  )
  else
  some (.inl ((s1.1 + (7 : Int32)), w86.2, w83.2.2))
  )
  else
  some (.inr ((0 : Int32), w86.2, w83.2.2))
  )
  )
  )
  )
  )
  )
  )
  )
  else
  (if (v2 &&& (63 : Int32)) = (13 : Int32) then
  (Option.bind (rds X (s1.1 + (1 : Int32))) fun v89 =>
  (Option.bind (rds X (s1.1 + (2 : Int32))) fun v90 =>
  (Option.bind (f_l_wears161 v89 v90 s1.2.1 s1.2.2) fun w91 =>
  (Option.bind (rds X (s1.1 + (1 : Int32))) fun v92 =>
  (Option.bind (rds X (s1.1 + (2 : Int32))) fun v93 =>
  (Option.bind (f_m_wears335 v92 v93 w91.2.1) fun w94 =>
  (Option.bind (f_m_thrown265 w94.2) fun v95 =>
  (if v95 = w91.1 then
  (if w91.1 = 0 then
  (Option.bind (rdl w91.2.2 698 (0 : Int32)) fun v96 =>
  (if (lg_cmp v96 (w94.1.toInt64)) = 0 then
  some (.inl ((s1.1 + (7 : Int32)), w94.2, w91.2.2))
  else
  some (.inr ((0 : Int32), w94.2, w91.2.2))
  )
  )
  else
  some (.inl ((s1.1 + (7 : Int32)), w94.2, w91.2.2))
  )
  else
  some (.inr ((0 : Int32), w94.2, w91.2.2))
  )
  )
  )
  )
  )
  )
  )
  )
  else
  (if (v2 &&& (63 : Int32)) = (14 : Int32) then
  (Option.bind (rds X (s1.1 + (1 : Int32))) fun v97 =>
  (Option.bind (rds X (s1.1 + (2 : Int32))) fun v98 =>
  (Option.bind (f_l_sky163 v97 v98 s1.2.1 s1.2.2) fun w99 =>
  (Option.bind (rds X (s1.1 + (1 : Int32))) fun v100 =>
  (Option.bind (rds X (s1.1 + (2 : Int32))) fun v101 =>
  (Option.bind (f_m_sky337 v100 v101 w99.2.1) fun w102 =>
  (Option.bind (f_m_thrown265 w102.2) fun v103 =>
  (if v103 = w99.1 then
  (if w99.1 = 0 then
  (Option.bind (rdl w99.2.2 698 (0 : Int32)) fun v104 =>
  (if (lg_cmp v104 (w102.1.toInt64)) = 0 then
  some (.inl ((s1.1 + (7 : Int32)), w102.2, w99.2.2))
  else
  some (.inr ((0 : Int32), w102.2, w99.2.2))
  )
  )
  else
  some (.inl ((s1.1 + (7 : Int32)), w102.2, w99.2.2))
  )
  else
  some (.inr ((0 : Int32), w102.2, w99.2.2))
  )
  )
  )
  )
  )
  )
  )
  )
  else
  (if (v2 &&& (63 : Int32)) = (15 : Int32) then
  (Option.bind (rds X (s1.1 + (1 : Int32))) fun v105 =>
  (Option.bind (rds X (s1.1 + (2 : Int32))) fun v106 =>
  (Option.bind (f_l_cloth165 v105 v106 s1.2.1 s1.2.2) fun w107 =>
  (Option.bind (rds X (s1.1 + (1 : Int32))) fun v108 =>
  (Option.bind (rds X (s1.1 + (2 : Int32))) fun v109 =>
  (Option.bind (f_m_cloth338 v108 v109 w107.2.1) fun w110 =>
  (Option.bind (f_m_thrown265 w110.2) fun v111 =>
  (if v111 = w107.1 then
  (if w107.1 = 0 then
  (Option.bind (rdl w107.2.2 698 (0 : Int32)) fun v112 =>
  (if (lg_cmp v112 (w110.1.toInt64)) = 0 then
  some (.inl ((s1.1 + (7 : Int32)), w110.2, w107.2.2))
  else
  some (.inr ((0 : Int32), w110.2, w107.2.2))
  )
  )
  else
  some (.inl ((s1.1 + (7 : Int32)), w110.2, w107.2.2))
  )
  else
  some (.inr ((0 : Int32), w110.2, w107.2.2))
  )
  )
  )
  )
  )
  )
  )
  )
  else
  (if (v2 &&& (63 : Int32)) = (16 : Int32) then
  (Option.bind (rds X (s1.1 + (1 : Int32))) fun v113 =>
  (Option.bind (rds X (s1.1 + (2 : Int32))) fun v114 =>
  (Option.bind (f_l_can170 v113 v114 s1.2.1 s1.2.2) fun w115 =>
  (Option.bind (rds X (s1.1 + (1 : Int32))) fun v116 =>
  (Option.bind (rds X (s1.1 + (2 : Int32))) fun v117 =>
  (Option.bind (f_m_can339 v116 v117 w115.2.1) fun w118 =>
  (Option.bind (f_m_thrown265 w118.2) fun v119 =>
  (if v119 = w115.1 then
  (if w115.1 = 0 then
  (Option.bind (rdl w115.2.2 698 (0 : Int32)) fun v120 =>
  (Option.bind (α := Int64)
  (if w118.1 = 0 then
  some (0 : Int64)
  else
  some (1 : Int64)
  )
  fun b121 =>
  (if (lg_cmp v120 b121) = 0 then
  some (.inl ((s1.1 + (7 : Int32)), w118.2, w115.2.2))
  else
  some (.inr ((0 : Int32), w118.2, w115.2.2))
  )
  )
  )
  else
  some (.inl ((s1.1 + (7 : Int32)), w118.2, w115.2.2))
  )
  else
  some (.inr ((0 : Int32), w118.2, w115.2.2))
  )
  )
  )
  )
  )
  )
  )
  )
  else
  (if (v2 &&& (63 : Int32)) = (17 : Int32) then
  (Option.bind (rds X (s1.1 + (1 : Int32))) fun v122 =>
  (Option.bind (f_l_ready172 v122 s1.2.1 s1.2.2) fun w123 =>
  (Option.bind (rds X (s1.1 + (1 : Int32))) fun v124 =>
  (Option.bind (f_m_ready340 v124 w123.2.1) fun w125 =>
  (Option.bind (f_m_thrown265 w125.2) fun v126 =>
  (if v126 = w123.1 then
  (if w123.1 = 0 then
  (Option.bind (rdl w123.2.2 698 (0 : Int32)) fun v127 =>
  (Option.bind (α := Int64)
  (if w125.1 = 0 then
  some (0 : Int64)
  else
  some (1 : Int64)
  )
  fun b128 =>
  (if (lg_cmp v127 b128) = 0 then
  some (.inl ((s1.1 + (7 : Int32)), w125.2, w123.2.2))
  else
  some (.inr ((0 : Int32), w125.2, w123.2.2))
  )
  )
  )
  else
  some (.inl ((s1.1 + (7 : Int32)), w125.2, w123.2.2))
  )
  else
  some (.inr ((0 : Int32), w125.2, w123.2.2))
  )
  )
  )
  )
  )
  )
  else
  (if (v2 &&& (63 : Int32)) = (18 : Int32) then
  (Option.bind (rds X (s1.1 + (1 : Int32))) fun v129 =>
  (Option.bind (f_l_fit174 v129 s1.2.1 s1.2.2) fun w130 =>
  (Option.bind (rds X (s1.1 + (1 : Int32))) fun v131 =>
  (Option.bind (f_m_fit341 v131 w130.2.1) fun w132 =>
  (Option.bind (f_m_thrown265 w132.2) fun v133 =>
  (if v133 = w130.1 then
  (if w130.1 = 0 then
  (Option.bind (rdl w130.2.2 698 (0 : Int32)) fun v134 =>
  (if (lg_cmp v134 (w132.1.toInt64)) = 0 then
  some (.inl ((s1.1 + (7 : Int32)), w132.2, w130.2.2))
  else
  some (.inr ((0 : Int32), w132.2, w130.2.2))
  )
  )
  else
  some (.inl ((s1.1 + (7 : Int32)), w132.2, w130.2.2))
  )
  else
  some (.inr ((0 : Int32), w132.2, w130.2.2))
  )
  )
  )
  )
  )
  )
  else
  (if (v2 &&& (63 : Int32)) = (19 : Int32) then
  (Option.bind (rds X (s1.1 + (1 : Int32))) fun v135 =>
  (Option.bind (rds X (s1.1 + (2 : Int32))) fun v136 =>
  (Option.bind (f_l_tries178 v135 v136 s1.2.1 s1.2.2) fun w137 =>
  (Option.bind (rds X (s1.1 + (1 : Int32))) fun v138 =>
  (Option.bind (rds X (s1.1 + (2 : Int32))) fun v139 =>
  (Option.bind (f_m_tries343 v138 v139 w137.2.1) fun w140 =>
  (Option.bind (f_m_thrown265 w140.2) fun v141 =>
  (if v141 = w137.1 then
  (if w137.1 = 0 then
  (Option.bind (rdl w137.2.2 698 (0 : Int32)) fun v142 =>
  (if (lg_cmp v142 (w140.1.toInt64)) = 0 then
  some (.inl ((s1.1 + (7 : Int32)), w140.2, w137.2.2))
  else
  some (.inr ((0 : Int32), w140.2, w137.2.2))
  )
  )
  else
  some (.inl ((s1.1 + (7 : Int32)), w140.2, w137.2.2))
  )
  else
  some (.inr ((0 : Int32), w140.2, w137.2.2))
  )
  )
  )
  )
  )
  )
  )
  )
  else
  (if (v2 &&& (63 : Int32)) = (20 : Int32) then
  (Option.bind (rds X (s1.1 + (1 : Int32))) fun v143 =>
  (Option.bind (f_l_best182 v143 s1.2.1 s1.2.2) fun w144 =>
  (Option.bind (rds X (s1.1 + (1 : Int32))) fun v145 =>
  (Option.bind (f_m_best344 v145 w144.2.1) fun w146 =>
  (Option.bind (f_m_thrown265 w146.2) fun v147 =>
  (if v147 = w144.1 then
  (if w144.1 = 0 then
  (Option.bind (rdl w144.2.2 698 (0 : Int32)) fun v148 =>
  (if (lg_cmp v148 (w146.1.toInt64)) = 0 then
  some (.inl ((s1.1 + (7 : Int32)), w146.2, w144.2.2))
  else
  some (.inr ((0 : Int32), w146.2, w144.2.2))
  )
  )
  else
  some (.inl ((s1.1 + (7 : Int32)), w146.2, w144.2.2))
  )
  else
  some (.inr ((0 : Int32), w146.2, w144.2.2))
  )
  )
  )
  )
  )
  )
  else
  (if (v2 &&& (63 : Int32)) = (21 : Int32) then
  (Option.bind (rds X (s1.1 + (1 : Int32))) fun v149 =>
  (Option.bind (rds X (s1.1 + (2 : Int32))) fun v150 =>
  (Option.bind (f_l_bestAt191 v149 v150 s1.2.1 s1.2.2) fun w151 =>
  (Option.bind (rds X (s1.1 + (1 : Int32))) fun v152 =>
  (Option.bind (rds X (s1.1 + (2 : Int32))) fun v153 =>
  (Option.bind (f_m_bestAt348 v152 v153 w151.2.1) fun w154 =>
  (Option.bind (f_m_thrown265 w154.2) fun v155 =>
  (if v155 = w151.1 then
  (if w151.1 = 0 then
  (Option.bind (rdl w151.2.2 698 (0 : Int32)) fun v156 =>
  (if (lg_cmp v156 (w154.1.toInt64)) = 0 then
  some (.inl ((s1.1 + (7 : Int32)), w154.2, w151.2.2))
  else
  some (.inr ((0 : Int32), w154.2, w151.2.2))
  )
  )
  else
  some (.inl ((s1.1 + (7 : Int32)), w154.2, w151.2.2))
  )
  else
  some (.inr ((0 : Int32), w154.2, w151.2.2))
  )
  )
  )
  )
  )
  )
  )
  )
  else
  (if (v2 &&& (63 : Int32)) = (22 : Int32) then
  (Option.bind (rds X (s1.1 + (1 : Int32))) fun v157 =>
  (Option.bind (f_l_clashes193 v157 s1.2.1 s1.2.2) fun w158 =>
  (Option.bind (rds X (s1.1 + (1 : Int32))) fun v159 =>
  (Option.bind (f_m_clashes349 v159 w158.2.1) fun w160 =>
  (Option.bind (f_m_thrown265 w160.2) fun v161 =>
  (if v161 = w158.1 then
  (if w158.1 = 0 then
  (Option.bind (rdl w158.2.2 698 (0 : Int32)) fun v162 =>
  (if (lg_cmp v162 (w160.1.toInt64)) = 0 then
  some (.inl ((s1.1 + (7 : Int32)), w160.2, w158.2.2))
  else
  some (.inr ((0 : Int32), w160.2, w158.2.2))
  )
  )
  else
  some (.inl ((s1.1 + (7 : Int32)), w160.2, w158.2.2))
  )
  else
  some (.inr ((0 : Int32), w160.2, w158.2.2))
  )
  )
  )
  )
  )
  )
  else
  (if (v2 &&& (63 : Int32)) = (23 : Int32) then
  (Option.bind (rds X (s1.1 + (1 : Int32))) fun v163 =>
  (Option.bind (rds X (s1.1 + (2 : Int32))) fun v164 =>
  (Option.bind (f_l_mend197 v163 v164 s1.2.1 s1.2.2) fun w165 =>
  (Option.bind (rds X (s1.1 + (1 : Int32))) fun v166 =>
  (Option.bind (rds X (s1.1 + (2 : Int32))) fun v167 =>
  (Option.bind (f_m_mend351 v166 v167 w165.2.1) fun w168 =>
  (Option.bind (f_m_thrown265 w168.2) fun v169 =>
  (if v169 = w165.1 then
  (if w165.1 = 0 then
  (Option.bind (rdl w165.2.2 698 (0 : Int32)) fun v170 =>
  (if (lg_cmp v170 (w168.1.toInt64)) = 0 then
  some (.inl ((s1.1 + (7 : Int32)), w168.2, w165.2.2))
  else
  some (.inr ((0 : Int32), w168.2, w165.2.2))
  )
  )
  else
  some (.inl ((s1.1 + (7 : Int32)), w168.2, w165.2.2))
  )
  else
  some (.inr ((0 : Int32), w168.2, w165.2.2))
  )
  )
  )
  )
  )
  )
  )
  )
  else
  (if (v2 &&& (63 : Int32)) = (24 : Int32) then
  (Option.bind (rds X (s1.1 + (1 : Int32))) fun v171 =>
  (Option.bind (f_l_pieces202 v171 s1.2.1 s1.2.2) fun w172 =>
  (Option.bind (rds X (s1.1 + (1 : Int32))) fun v173 =>
  (Option.bind (f_m_pieces352 v173 w172.2.1) fun w174 =>
  (Option.bind (f_m_thrown265 w174.2) fun v175 =>
  (if v175 = w172.1 then
  (if w172.1 = 0 then
  (Option.bind (rdl w172.2.2 698 (0 : Int32)) fun v176 =>
  (if (lg_cmp v176 (w174.1.toInt64)) = 0 then
  some (.inl ((s1.1 + (7 : Int32)), w174.2, w172.2.2))
  else
  some (.inr ((0 : Int32), w174.2, w172.2.2))
  )
  )
  else
  some (.inl ((s1.1 + (7 : Int32)), w174.2, w172.2.2))
  )
  else
  some (.inr ((0 : Int32), w174.2, w172.2.2))
  )
  )
  )
  )
  )
  )
  else
  (if (v2 &&& (63 : Int32)) = (25 : Int32) then
  (Option.bind (rds X (s1.1 + (1 : Int32))) fun v177 =>
  (Option.bind (rds X (s1.1 + (2 : Int32))) fun v178 =>
  (Option.bind (f_l_sewn213 v177 v178 s1.2.1 s1.2.2) fun w179 =>
  (Option.bind (rds X (s1.1 + (1 : Int32))) fun v180 =>
  (Option.bind (rds X (s1.1 + (2 : Int32))) fun v181 =>
  (Option.bind (f_m_sewn357 v180 v181 w179.2.1) fun w182 =>
  (Option.bind (f_m_thrown265 w182.2) fun v183 =>
  (if v183 = w179.1 then
  (if w179.1 = 0 then
  (Option.bind (rdl w179.2.2 698 (0 : Int32)) fun v184 =>
  (if (lg_cmp v184 (w182.1.toInt64)) = 0 then
  some (.inl ((s1.1 + (7 : Int32)), w182.2, w179.2.2))
  else
  some (.inr ((0 : Int32), w182.2, w179.2.2))
  )
  )
  else
  some (.inl ((s1.1 + (7 : Int32)), w182.2, w179.2.2))
  )
  else
  some (.inr ((0 : Int32), w182.2, w179.2.2))
  )
  )
  )
  )
  )
  )
  )
  )
  else
  (if (v2 &&& (63 : Int32)) = (26 : Int32) then
  (Option.bind (rds X (s1.1 + (1 : Int32))) fun v185 =>
  (Option.bind (f_l_words219 v185 s1.2.1 s1.2.2) fun w186 =>
  (Option.bind (rds X (s1.1 + (1 : Int32))) fun v187 =>
  (Option.bind (f_m_words359 v187 w186.2.1) fun w188 =>
  (Option.bind (f_m_thrown265 w188.2) fun v189 =>
  (if v189 = w186.1 then
  (if w186.1 = 0 then
  (Option.bind (rdl w186.2.2 698 (0 : Int32)) fun v190 =>
  (if (lg_cmp v190 (w188.1.toInt64)) = 0 then
  some (.inl ((s1.1 + (7 : Int32)), w188.2, w186.2.2))
  else
  some (.inr ((0 : Int32), w188.2, w186.2.2))
  )
  )
  else
  some (.inl ((s1.1 + (7 : Int32)), w188.2, w186.2.2))
  )
  else
  some (.inr ((0 : Int32), w188.2, w186.2.2))
  )
  )
  )
  )
  )
  )
  else
  (if (v2 &&& (63 : Int32)) = (27 : Int32) then
  (Option.bind (rds X (s1.1 + (1 : Int32))) fun v191 =>
  (Option.bind (rds X (s1.1 + (2 : Int32))) fun v192 =>
  (Option.bind (f_l_offers222 v191 v192 s1.2.1 s1.2.2) fun w193 =>
  (Option.bind (rds X (s1.1 + (1 : Int32))) fun v194 =>
  (Option.bind (rds X (s1.1 + (2 : Int32))) fun v195 =>
  (Option.bind (f_m_offers360 v194 v195 w193.2.1) fun w196 =>
  (Option.bind (f_m_thrown265 w196.2) fun v197 =>
  (if v197 = w193.1 then
  (if w193.1 = 0 then
  (Option.bind (rdl w193.2.2 698 (0 : Int32)) fun v198 =>
  (if (lg_cmp v198 w196.1) = 0 then
  some (.inl ((s1.1 + (7 : Int32)), w196.2, w193.2.2))
  else
  some (.inr ((0 : Int32), w196.2, w193.2.2))
  )
  )
  else
  some (.inl ((s1.1 + (7 : Int32)), w196.2, w193.2.2))
  )
  else
  some (.inr ((0 : Int32), w196.2, w193.2.2))
  )
  )
  )
  )
  )
  )
  )
  )
  else
  (if (v2 &&& (63 : Int32)) = (28 : Int32) then
  (Option.bind (rds X (s1.1 + (1 : Int32))) fun v199 =>
  (Option.bind (f_l_line227 v199 s1.2.1 s1.2.2) fun w200 =>
  (Option.bind (rds X (s1.1 + (1 : Int32))) fun v201 =>
  (Option.bind (f_m_line363 v201 w200.2.1) fun w202 =>
  (Option.bind (f_m_thrown265 w202.2) fun v203 =>
  (if v203 = w200.1 then
  (if w200.1 = 0 then
  (Option.bind (rdl w200.2.2 698 (0 : Int32)) fun v204 =>
  (if (lg_cmp v204 (w202.1.toInt64)) = 0 then
  some (.inl ((s1.1 + (7 : Int32)), w202.2, w200.2.2))
  else
  some (.inr ((0 : Int32), w202.2, w200.2.2))
  )
  )
  else
  some (.inl ((s1.1 + (7 : Int32)), w202.2, w200.2.2))
  )
  else
  some (.inr ((0 : Int32), w202.2, w200.2.2))
  )
  )
  )
  )
  )
  )
  else
  (if (v2 &&& (63 : Int32)) = (29 : Int32) then
  (Option.bind (rds X (s1.1 + (1 : Int32))) fun v205 =>
  (Option.bind (f_l_skies229 v205 s1.2.1 s1.2.2) fun w206 =>
  (Option.bind (rds X (s1.1 + (1 : Int32))) fun v207 =>
  (Option.bind (f_m_skies364 v207 w206.2.1) fun w208 =>
  (Option.bind (f_m_thrown265 w208.2) fun v209 =>
  (if v209 = w206.1 then
  (if w206.1 = 0 then
  (Option.bind (rdl w206.2.2 698 (0 : Int32)) fun v210 =>
  (if (lg_cmp v210 (w208.1.toInt64)) = 0 then
  some (.inl ((s1.1 + (7 : Int32)), w208.2, w206.2.2))
  else
  some (.inr ((0 : Int32), w208.2, w206.2.2))
  )
  )
  else
  some (.inl ((s1.1 + (7 : Int32)), w208.2, w206.2.2))
  )
  else
  some (.inr ((0 : Int32), w208.2, w206.2.2))
  )
  )
  )
  )
  )
  )
  else
  (if (v2 &&& (63 : Int32)) = (30 : Int32) then
  (Option.bind (f_x_which23 s1.2.1) fun v211 =>
  (Option.bind (f_m_which367 s1.2.1) fun w212 =>
  (if v211 = w212.1 then
  some (.inl ((s1.1 + (7 : Int32)), w212.2, s1.2.2))
  else
  some (.inr ((0 : Int32), w212.2, s1.2.2))
  )
  )
  )
  else
  (if (v2 &&& (63 : Int32)) = (31 : Int32) then
  (Option.bind (rds X (s1.1 + (1 : Int32))) fun v213 =>
  (Option.bind (f_l_look231 v213 s1.2.1 s1.2.2) fun w214 =>
  (Option.bind (rds X (s1.1 + (1 : Int32))) fun v215 =>
  (Option.bind (f_m_look368 v215 w214.2.1) fun w216 =>
  (Option.bind (f_m_thrown265 w216.2) fun v217 =>
  (if v217 = w214.1 then
  (if w214.1 = 0 then
  (Option.bind (rdl w214.2.2 698 (0 : Int32)) fun v218 =>
  (if (lg_cmp v218 (w216.1.toInt64)) = 0 then
  some (.inl ((s1.1 + (7 : Int32)), w216.2, w214.2.2))
  else
  some (.inr ((0 : Int32), w216.2, w214.2.2))
  )
  )
  else
  some (.inl ((s1.1 + (7 : Int32)), w216.2, w214.2.2))
  )
  else
  some (.inr ((0 : Int32), w216.2, w214.2.2))
  )
  )
  )
  )
  )
  )
  else
  (if (v2 &&& (63 : Int32)) = (32 : Int32) then
  (Option.bind (rds X (s1.1 + (1 : Int32))) fun v219 =>
  (Option.bind (f_l_tailors237 v219 s1.2.1 s1.2.2) fun w220 =>
  (Option.bind (rds X (s1.1 + (1 : Int32))) fun v221 =>
  (Option.bind (f_m_tailors371 v221 w220.2.1) fun w222 =>
  (Option.bind (f_m_thrown265 w222.2) fun v223 =>
  (if v223 = w220.1 then
  (if w220.1 = 0 then
  (Option.bind (rdl w220.2.2 698 (0 : Int32)) fun v224 =>
  (if (lg_cmp v224 (w222.1.toInt64)) = 0 then
  some (.inl ((s1.1 + (7 : Int32)), w222.2, w220.2.2))
  else
  some (.inr ((0 : Int32), w222.2, w220.2.2))
  )
  )
  else
  some (.inl ((s1.1 + (7 : Int32)), w222.2, w220.2.2))
  )
  else
  some (.inr ((0 : Int32), w222.2, w220.2.2))
  )
  )
  )
  )
  )
  )
  else
  (if (v2 &&& (63 : Int32)) = (33 : Int32) then
  (Option.bind (rds X (s1.1 + (1 : Int32))) fun v225 =>
  (Option.bind (rds X (s1.1 + (2 : Int32))) fun v226 =>
  (Option.bind (f_l_gets245 v225 v226 s1.2.1 s1.2.2) fun w227 =>
  (Option.bind (rds X (s1.1 + (1 : Int32))) fun v228 =>
  (Option.bind (rds X (s1.1 + (2 : Int32))) fun v229 =>
  (Option.bind (f_m_gets374 v228 v229 w227.2.1) fun w230 =>
  (Option.bind (f_m_thrown265 w230.2) fun v231 =>
  (if v231 = w227.1 then
  (if w227.1 = 0 then
  (Option.bind (rdl w227.2.2 698 (0 : Int32)) fun v232 =>
  (if (lg_cmp v232 (w230.1.toInt64)) = 0 then
  some (.inl ((s1.1 + (7 : Int32)), w230.2, w227.2.2))
  else
  some (.inr ((0 : Int32), w230.2, w227.2.2))
  )
  )
  else
  some (.inl ((s1.1 + (7 : Int32)), w230.2, w227.2.2))
  )
  else
  some (.inr ((0 : Int32), w230.2, w227.2.2))
  )
  )
  )
  )
  )
  )
  )
  )
  else
  (if (v2 &&& (63 : Int32)) = (34 : Int32) then
  (Option.bind (rds X (s1.1 + (1 : Int32))) fun v233 =>
  (Option.bind (rds X (s1.1 + (2 : Int32))) fun v234 =>
  (Option.bind (rds X (s1.1 + (3 : Int32))) fun v235 =>
  (Option.bind (f_l_ahead247 v233 v234 v235 s1.2.1 s1.2.2) fun w236 =>
  (Option.bind (rds X (s1.1 + (1 : Int32))) fun v237 =>
  (Option.bind (rds X (s1.1 + (2 : Int32))) fun v238 =>
  (Option.bind (rds X (s1.1 + (3 : Int32))) fun v239 =>
  (Option.bind (f_m_ahead375 v237 v238 v239 w236.2.1) fun w240 =>
  (Option.bind (f_m_thrown265 w240.2) fun v241 =>
  (if v241 = w236.1 then
  (if w236.1 = 0 then
  (Option.bind (rdl w236.2.2 698 (0 : Int32)) fun v242 =>
  (if (lg_cmp v242 (w240.1.toInt64)) = 0 then
  some (.inl ((s1.1 + (7 : Int32)), w240.2, w236.2.2))
  else
  some (.inr ((0 : Int32), w240.2, w236.2.2))
  )
  )
  else
  some (.inl ((s1.1 + (7 : Int32)), w240.2, w236.2.2))
  )
  else
  some (.inr ((0 : Int32), w240.2, w236.2.2))
  )
  )
  )
  )
  )
  )
  )
  )
  )
  )
  else
  (if (v2 &&& (63 : Int32)) = (35 : Int32) then
  (Option.bind (rds X (s1.1 + (1 : Int32))) fun v243 =>
  (Option.bind (rds X (s1.1 + (2 : Int32))) fun v244 =>
  (Option.bind (rds X (s1.1 + (3 : Int32))) fun v245 =>
  (Option.bind (rds X (s1.1 + (4 : Int32))) fun v246 =>
  (Option.bind (f_l_years250 v243 v244 v245 v246 s1.2.1 s1.2.2) fun w247 =>
  (Option.bind (rds X (s1.1 + (1 : Int32))) fun v248 =>
  (Option.bind (rds X (s1.1 + (2 : Int32))) fun v249 =>
  (Option.bind (rds X (s1.1 + (3 : Int32))) fun v250 =>
  (Option.bind (rds X (s1.1 + (4 : Int32))) fun v251 =>
  (Option.bind (f_m_years376 v248 v249 v250 v251 w247.2.1) fun w252 =>
  (Option.bind (f_m_thrown265 w252.2) fun v253 =>
  (if v253 = w247.1 then
  (if w247.1 = 0 then
  (Option.bind (rdl w247.2.2 698 (0 : Int32)) fun v254 =>
  (if (lg_cmp v254 (w252.1.toInt64)) = 0 then
  some (.inl ((s1.1 + (7 : Int32)), w252.2, w247.2.2))
  else
  some (.inr ((0 : Int32), w252.2, w247.2.2))
  )
  )
  else
  some (.inl ((s1.1 + (7 : Int32)), w252.2, w247.2.2))
  )
  else
  some (.inr ((0 : Int32), w252.2, w247.2.2))
  )
  )
  )
  )
  )
  )
  )
  )
  )
  )
  )
  )
  else
  (if (v2 &&& (63 : Int32)) = (36 : Int32) then
  (Option.bind (rds X (s1.1 + (1 : Int32))) fun v255 =>
  (Option.bind (rds X (s1.1 + (2 : Int32))) fun v256 =>
  (Option.bind (rds X (s1.1 + (3 : Int32))) fun v257 =>
  (Option.bind (rds X (s1.1 + (4 : Int32))) fun v258 =>
  (Option.bind (rds X (s1.1 + (5 : Int32))) fun v259 =>
  (Option.bind (rds X (s1.1 + (6 : Int32))) fun v260 =>
  (Option.bind (f_l_span258 v255 v256 v257 v258 v259 v260 s1.2.1 s1.2.2) fun w261 =>
  (Option.bind (rds X (s1.1 + (1 : Int32))) fun v262 =>
  (Option.bind (rds X (s1.1 + (2 : Int32))) fun v263 =>
  (Option.bind (rds X (s1.1 + (3 : Int32))) fun v264 =>
  (Option.bind (rds X (s1.1 + (4 : Int32))) fun v265 =>
  (Option.bind (rds X (s1.1 + (5 : Int32))) fun v266 =>
  (Option.bind (rds X (s1.1 + (6 : Int32))) fun v267 =>
  (Option.bind (f_m_span379 v262 v263 v264 v265 v266 v267 w261.2.1) fun w268 =>
  (Option.bind (f_m_thrown265 w268.2) fun v269 =>
  (if v269 = w261.1 then
  (if w261.1 = 0 then
  (Option.bind (rdl w261.2.2 698 (0 : Int32)) fun v270 =>
  (if (lg_cmp v270 (w268.1.toInt64)) = 0 then
  some (.inl ((s1.1 + (7 : Int32)), w268.2, w261.2.2))
  else
  some (.inr ((0 : Int32), w268.2, w261.2.2))
  )
  )
  else
  some (.inl ((s1.1 + (7 : Int32)), w268.2, w261.2.2))
  )
  else
  some (.inr ((0 : Int32), w268.2, w261.2.2))
  )
  )
  )
  )
  )
  )
  )
  )
  )
  )
  )
  )
  )
  )
  )
  )
  else
  (if (v2 &&& (63 : Int32)) = (37 : Int32) then
  (Option.bind (f_x_image29 s1.2.1) fun w271 =>
  (Option.bind (f_m_image380 w271.2) fun w272 =>
  (if w271.1 = w272.1 then
  some (.inl ((s1.1 + (7 : Int32)), w272.2, s1.2.2))
  else
  some (.inr ((0 : Int32), w272.2, s1.2.2))
  )
  )
  )
  else
  (if (v2 &&& (63 : Int32)) = (38 : Int32) then
  (Option.bind (f_x_restore31 s1.2.1) fun w273 =>
  (Option.bind (f_m_restore383 w273.2) fun w274 =>
  (if w273.1 = w274.1 then
  some (.inl ((s1.1 + (7 : Int32)), w274.2, s1.2.2))
  else
  some (.inr ((0 : Int32), w274.2, s1.2.2))
  )
  )
  )
  else
  (if (v2 &&& (63 : Int32)) = (39 : Int32) then
  (Option.bind (rds X (s1.1 + (1 : Int32))) fun v275 =>
  (Option.bind (f_x_status33 v275 s1.2.1) fun v276 =>
  (Option.bind (rds X (s1.1 + (1 : Int32))) fun v277 =>
  (Option.bind (f_m_status384 v277 s1.2.1) fun w278 =>
  (if v276 = w278.1 then
  some (.inl ((s1.1 + (7 : Int32)), w278.2, s1.2.2))
  else
  some (.inr ((0 : Int32), w278.2, s1.2.2))
  )
  )
  )
  )
  )
  else
  (if (v2 &&& (63 : Int32)) = (40 : Int32) then
  (Option.bind (rds X (s1.1 + (1 : Int32))) fun v279 =>
  (Option.bind (f_x_count34 v279 s1.2.1) fun v280 =>
  (Option.bind (rds X (s1.1 + (1 : Int32))) fun v281 =>
  (Option.bind (f_m_count385 v281 s1.2.1) fun w282 =>
  (if v280 = w282.1 then
  some (.inl ((s1.1 + (7 : Int32)), w282.2, s1.2.2))
  else
  some (.inr ((0 : Int32), w282.2, s1.2.2))
  )
  )
  )
  )
  )
  else
  some (.inl ((s1.1 + (7 : Int32)), s1.2.1, s1.2.2))
  )))))))))))))))))))))))))))))))))))))))))
  )
  )
set_option maxRecDepth 100000 in
theorem l_law_eq (X : XX) (I : MJ) (g : GG) : f_l_law386 X I g = wh (l_law_body X) ((0 : Int32), I, g) := rfl
/-- how a throw is told: by the place of its handler -/
def okE (cs : List Nat) (E : Nat) (t : Int32) : Prop := (cs[0]? = some E ∧ t = 1) ∨ (cs[1]? = some E ∧ t = 2)
def okI (cs : List Nat) (r : Nat ⊕ Int32) (b t : Int32) : Prop := match r with
  | .inr v => t = 0 ∧ v = b
  | .inl E => okE cs E t
def okB (cs : List Nat) (r : Nat ⊕ Int32) (b t : Int32) : Prop := match r with
  | .inr v => t = 0 ∧ (v = 0 ↔ b = 0)
  | .inl E => okE cs E t
def okL (cs : List Nat) (r : Nat ⊕ Int64) (b : Int64) (t : Int32) : Prop := match r with
  | .inr v => t = 0 ∧ v = b
  | .inl E => okE cs E t
def gle (g g2 : GG) : Prop := g2.2.1 ≤ g.2.1 + 1 ∧ g2.2.2 ≤ g.2.2 + 6
theorem gle_rf (g : GG) : gle g g := ⟨Nat.le_add_right _ _, Nat.le_add_right _ _⟩
theorem gle_thr (g : GG) : gle g (thr g) := ⟨Nat.le_refl _, Nat.le_refl _⟩
theorem wrl_ok (g : GG) (x : Int64) : wrl g 698 (0 : Int32) x = some (ab_upL g.1 698 0 x, g.2) := rfl
theorem rdl_ok (g : GG) (x : Int64) : rdl (ab_upL g.1 698 0 x, g.2) 698 (0 : Int32) = some x := rfl
theorem lg_cmp_self (x : Int64) : lg_cmp x x = 0 := by
  unfold lg_cmp
  rw [if_neg (by simp), if_pos rfl]
theorem wrap1I {c1 : Nat} {e : Option ((Nat ⊕ Int32) × MJ)} {g : GG} {r : Nat ⊕ Int32} {I1 : MJ} {b : Int32} {t : Int32} (he : e = some (r, I1)) (hk : okI [c1] r b t) : ∃ k g2, (tryb e (fun v1 I2 =>
  (Option.bind (wrl g 698 (0 : Int32) (v1.toInt64)) fun g3 =>
  some ((0 : Int32), I2, g3)
  )
  ) (fun E2 I2 =>
  (if E2 = c1 then
  some ((1 : Int32), I2, (thr g))
  else
  none)
  )) = some (k, I1, g2) ∧ t = k ∧ (k = 0 → rdl g2 698 (0 : Int32) = some (b.toInt64)) ∧ gle g g2 := by
  subst he
  cases r with
  | inl E =>
    have hk : okE _ _ _ := hk
    rcases hk with ⟨h1, h2⟩ | ⟨h1, h2⟩
    · obtain rfl : c1 = E := Option.some.inj h1
      exact ⟨1, thr g, if_pos rfl, h2, fun h => absurd h (by decide), gle_thr g⟩
    · exact absurd h1 (by simp)
  | inr v =>
    obtain ⟨h1, h2⟩ := hk
    subst h2
    exact ⟨0, _, rfl, h1, fun _ => rdl_ok g _, ⟨Nat.le_add_right _ _, Nat.le_add_right _ _⟩⟩
theorem wrap2I {c1 c2 : Nat} {e : Option ((Nat ⊕ Int32) × MJ)} {g : GG} {r : Nat ⊕ Int32} {I1 : MJ} {b : Int32} {t : Int32} (hne : ¬ c2 = c1) (he : e = some (r, I1)) (hk : okI [c1, c2] r b t) : ∃ k g2, (tryb e (fun v1 I2 =>
  (Option.bind (wrl g 698 (0 : Int32) (v1.toInt64)) fun g3 =>
  some ((0 : Int32), I2, g3)
  )
  ) (fun E2 I2 =>
  (if E2 = c1 then
  some ((1 : Int32), I2, (thr g))
  else
  (if E2 = c2 then
  some ((2 : Int32), I2, (thr g))
  else
  none))
  )) = some (k, I1, g2) ∧ t = k ∧ (k = 0 → rdl g2 698 (0 : Int32) = some (b.toInt64)) ∧ gle g g2 := by
  subst he
  cases r with
  | inl E =>
    have hk : okE _ _ _ := hk
    rcases hk with ⟨h1, h2⟩ | ⟨h1, h2⟩
    · obtain rfl : c1 = E := Option.some.inj h1
      exact ⟨1, thr g, if_pos rfl, h2, fun h => absurd h (by decide), gle_thr g⟩
    · obtain rfl : c2 = E := Option.some.inj h1
      exact ⟨2, thr g, (if_neg hne).trans (if_pos rfl), h2, fun h => absurd h (by decide), gle_thr g⟩
  | inr v =>
    obtain ⟨h1, h2⟩ := hk
    subst h2
    exact ⟨0, _, rfl, h1, fun _ => rdl_ok g _, ⟨Nat.le_add_right _ _, Nat.le_add_right _ _⟩⟩
theorem wrap1B {c1 : Nat} {e : Option ((Nat ⊕ Int32) × MJ)} {g : GG} {r : Nat ⊕ Int32} {I1 : MJ} {b : Int32} {t : Int32} (he : e = some (r, I1)) (hk : okB [c1] r b t) : ∃ k g2, (tryb e (fun v1 I2 =>
  (Option.bind (α := Int64)
  (if v1 = 0 then
  some (0 : Int64)
  else
  some (1 : Int64)
  )
  fun b3 =>
  (Option.bind (wrl g 698 (0 : Int32) b3) fun g4 =>
  some ((0 : Int32), I2, g4)
  )
  )
  ) (fun E2 I2 =>
  (if E2 = c1 then
  some ((1 : Int32), I2, (thr g))
  else
  none)
  )) = some (k, I1, g2) ∧ t = k ∧ (k = 0 → rdl g2 698 (0 : Int32) = some ((if b = 0 then (0 : Int64) else 1))) ∧ gle g g2 := by
  subst he
  cases r with
  | inl E =>
    have hk : okE _ _ _ := hk
    rcases hk with ⟨h1, h2⟩ | ⟨h1, h2⟩
    · obtain rfl : c1 = E := Option.some.inj h1
      exact ⟨1, thr g, if_pos rfl, h2, fun h => absurd h (by decide), gle_thr g⟩
    · exact absurd h1 (by simp)
  | inr v =>
    obtain ⟨h1, h2⟩ := hk
    refine ⟨0, (ab_upL g.1 698 0 (if b = 0 then (0 : Int64) else 1), g.2), ?_, h1, fun _ => rdl_ok g _, ⟨Nat.le_add_right _ _, Nat.le_add_right _ _⟩⟩
    by_cases hb : b = 0
    · obtain rfl := h2.mpr hb
      subst hb
      rfl
    · rw [tryb_inr, if_neg (fun h => hb (h2.mp h)), if_neg hb]
      rfl
theorem wrap1L {c1 : Nat} {e : Option ((Nat ⊕ Int64) × MJ)} {g : GG} {r : Nat ⊕ Int64} {I1 : MJ} {b : Int64} {t : Int32} (he : e = some (r, I1)) (hk : okL [c1] r b t) : ∃ k g2, (tryb e (fun v1 I2 =>
  (Option.bind (wrl g 698 (0 : Int32) v1) fun g3 =>
  some ((0 : Int32), I2, g3)
  )
  ) (fun E2 I2 =>
  (if E2 = c1 then
  some ((1 : Int32), I2, (thr g))
  else
  none)
  )) = some (k, I1, g2) ∧ t = k ∧ (k = 0 → rdl g2 698 (0 : Int32) = some (b)) ∧ gle g g2 := by
  subst he
  cases r with
  | inl E =>
    have hk : okE _ _ _ := hk
    rcases hk with ⟨h1, h2⟩ | ⟨h1, h2⟩
    · obtain rfl : c1 = E := Option.some.inj h1
      exact ⟨1, thr g, if_pos rfl, h2, fun h => absurd h (by decide), gle_thr g⟩
    · exact absurd h1 (by simp)
  | inr v =>
    obtain ⟨h1, h2⟩ := hk
    subst h2
    exact ⟨0, _, rfl, h1, fun _ => rdl_ok g _, ⟨Nat.le_add_right _ _, Nat.le_add_right _ _⟩⟩
theorem tailI {k b t i : Int32} {I2 : MJ} {g2 : GG} (ht : t = k) (hv : k = 0 → rdl g2 698 (0 : Int32) = some b.toInt64) : (if t = k then (if k = 0 then (Option.bind (rdl g2 698 (0 : Int32)) fun v => (if (lg_cmp v (b.toInt64)) = 0 then some (.inl (i, I2, g2)) else some (.inr ((0 : Int32), I2, g2)))) else some (.inl (i, I2, g2))) else some (.inr ((0 : Int32), I2, g2))) = some (Sum.inl (β := Int32 × MJ × GG) (i, I2, g2)) := by
  rw [if_pos ht]
  by_cases hk : k = 0
  · rw [if_pos hk, hv hk, ob_some, if_pos (lg_cmp_self _)]
  · rw [if_neg hk]
theorem tailL {k t i : Int32} {b : Int64} {I2 : MJ} {g2 : GG} (ht : t = k) (hv : k = 0 → rdl g2 698 (0 : Int32) = some b) : (if t = k then (if k = 0 then (Option.bind (rdl g2 698 (0 : Int32)) fun v => (if (lg_cmp v b) = 0 then some (.inl (i, I2, g2)) else some (.inr ((0 : Int32), I2, g2)))) else some (.inl (i, I2, g2))) else some (.inr ((0 : Int32), I2, g2))) = some (Sum.inl (β := Int32 × MJ × GG) (i, I2, g2)) := by
  rw [if_pos ht]
  by_cases hk : k = 0
  · rw [if_pos hk, hv hk, ob_some, if_pos (lg_cmp_self _)]
  · rw [if_neg hk]
theorem tailB {k b t i : Int32} {I2 : MJ} {g2 : GG} (ht : t = k) (hv : k = 0 → rdl g2 698 (0 : Int32) = some (if b = 0 then (0 : Int64) else 1)) : (if t = k then (if k = 0 then (Option.bind (rdl g2 698 (0 : Int32)) fun v => (Option.bind (α := Int64) (if b = 0 then some (0 : Int64) else some (1 : Int64)) fun b3 => (if (lg_cmp v b3) = 0 then some (.inl (i, I2, g2)) else some (.inr ((0 : Int32), I2, g2))))) else some (.inl (i, I2, g2))) else some (.inr ((0 : Int32), I2, g2))) = some (Sum.inl (β := Int32 × MJ × GG) (i, I2, g2)) := by
  rw [if_pos ht]
  by_cases hk : k = 0
  · rw [if_pos hk, hv hk, ob_some, o_ite, ob_some, if_pos (lg_cmp_self _)]
  · rw [if_neg hk]
def op_feed (rel : MJ → Prop) : Prop := ∀ (a1 a2 a3 a4 a5 : Int32) (I : MJ), rel I → ∃ b I1 I2, f_x_feed17 a1 a2 a3 a4 a5 I = some (b, I1) ∧ f_m_feed266 a1 a2 a3 a4 a5 I1 = some (b, I2) ∧ rel I2
def op_shop (rel : MJ → Prop) : Prop := ∀ (a1 : Int32) (I : MJ), rel I → ∃ r I1 b I2, f_x_shop36 a1 I = some (r, I1) ∧ f_m_shop267 a1 I1 = some (b, I2) ∧ rel I2 ∧ okI [1] r b (I2 47 0)
def op_pattern (rel : MJ → Prop) : Prop := ∀ (a1 a2 : Int32) (I : MJ), rel I → ∃ r I1 b I2, f_x_pattern67 a1 a2 I = some (r, I1) ∧ f_m_pattern287 a1 a2 I1 = some (b, I2) ∧ rel I2 ∧ okI [0, 1] r b (I2 47 0)
def op_law (rel : MJ → Prop) : Prop := ∀ (a1 : Int32) (I : MJ), rel I → ∃ r I1 b I2, f_x_law81 a1 I = some (r, I1) ∧ f_m_law292 a1 I1 = some (b, I2) ∧ rel I2 ∧ okI [1] r b (I2 47 0)
def op_work (rel : MJ → Prop) : Prop := ∀ (a1 : Int32) (I : MJ), rel I → ∃ r I1 b I2, f_x_work92 a1 I = some (r, I1) ∧ f_m_work299 a1 I1 = some (b, I2) ∧ rel I2 ∧ okI [1] r b (I2 47 0)
def op_book (rel : MJ → Prop) : Prop := ∀ (a1 : Int32) (I : MJ), rel I → ∃ r I1 b I2, f_x_book137 a1 I = some (r, I1) ∧ f_m_book322 a1 I1 = some (b, I2) ∧ rel I2 ∧ okI [1] r b (I2 47 0)
def op_fault (rel : MJ → Prop) : Prop := ∀ (I : MJ), rel I → ∃ b I2, f_x_fault19 I = some b ∧ f_m_fault323 I = some (b, I2) ∧ rel I2
def op_undo (rel : MJ → Prop) : Prop := ∀ (I : MJ), rel I → ∃ b I1 I2, f_x_undo20 I = some (b, I1) ∧ f_m_undo321 I1 = some (b, I2) ∧ rel I2
def op_told (rel : MJ → Prop) : Prop := ∀ (a1 : Int32) (I : MJ), rel I → ∃ r I1 b I2, f_x_told141 a1 I = some (r, I1) ∧ f_m_told324 a1 I1 = some (b, I2) ∧ rel I2 ∧ okI [1] r b (I2 47 0)
def op_bolt (rel : MJ → Prop) : Prop := ∀ (a1 a2 : Int32) (I : MJ), rel I → ∃ r I1 b I2, f_x_bolt146 a1 a2 I = some (r, I1) ∧ f_m_bolt326 a1 a2 I1 = some (b, I2) ∧ rel I2 ∧ okI [0, 1] r b (I2 47 0)
def op_client (rel : MJ → Prop) : Prop := ∀ (a1 a2 : Int32) (I : MJ), rel I → ∃ r I1 b I2, f_x_client149 a1 a2 I = some (r, I1) ∧ f_m_client327 a1 a2 I1 = some (b, I2) ∧ rel I2 ∧ okI [0, 1] r b (I2 47 0)
def op_want (rel : MJ → Prop) : Prop := ∀ (a1 a2 : Int32) (I : MJ), rel I → ∃ r I1 b I2, f_x_want157 a1 a2 I = some (r, I1) ∧ f_m_want331 a1 a2 I1 = some (b, I2) ∧ rel I2 ∧ okI [0, 1] r b (I2 47 0)
def op_order (rel : MJ → Prop) : Prop := ∀ (a1 a2 : Int32) (I : MJ), rel I → ∃ r I1 b I2, f_x_order160 a1 a2 I = some (r, I1) ∧ f_m_order333 a1 a2 I1 = some (b, I2) ∧ rel I2 ∧ okI [0, 1] r b (I2 47 0)
def op_wears (rel : MJ → Prop) : Prop := ∀ (a1 a2 : Int32) (I : MJ), rel I → ∃ r I1 b I2, f_x_wears162 a1 a2 I = some (r, I1) ∧ f_m_wears335 a1 a2 I1 = some (b, I2) ∧ rel I2 ∧ okI [0, 1] r b (I2 47 0)
def op_sky (rel : MJ → Prop) : Prop := ∀ (a1 a2 : Int32) (I : MJ), rel I → ∃ r I1 b I2, f_x_sky164 a1 a2 I = some (r, I1) ∧ f_m_sky337 a1 a2 I1 = some (b, I2) ∧ rel I2 ∧ okI [0, 1] r b (I2 47 0)
def op_cloth (rel : MJ → Prop) : Prop := ∀ (a1 a2 : Int32) (I : MJ), rel I → ∃ r I1 b I2, f_x_cloth166 a1 a2 I = some (r, I1) ∧ f_m_cloth338 a1 a2 I1 = some (b, I2) ∧ rel I2 ∧ okI [1] r b (I2 47 0)
def op_can (rel : MJ → Prop) : Prop := ∀ (a1 a2 : Int32) (I : MJ), rel I → ∃ r I1 b I2, f_x_can171 a1 a2 I = some (r, I1) ∧ f_m_can339 a1 a2 I1 = some (b, I2) ∧ rel I2 ∧ okB [0] r b (I2 47 0)
def op_ready (rel : MJ → Prop) : Prop := ∀ (a1 : Int32) (I : MJ), rel I → ∃ r I1 b I2, f_x_ready173 a1 I = some (r, I1) ∧ f_m_ready340 a1 I1 = some (b, I2) ∧ rel I2 ∧ okB [0] r b (I2 47 0)
def op_fit (rel : MJ → Prop) : Prop := ∀ (a1 : Int32) (I : MJ), rel I → ∃ r I1 b I2, f_x_fit175 a1 I = some (r, I1) ∧ f_m_fit341 a1 I1 = some (b, I2) ∧ rel I2 ∧ okI [0] r b (I2 47 0)
def op_tries (rel : MJ → Prop) : Prop := ∀ (a1 a2 : Int32) (I : MJ), rel I → ∃ r I1 b I2, f_x_tries179 a1 a2 I = some (r, I1) ∧ f_m_tries343 a1 a2 I1 = some (b, I2) ∧ rel I2 ∧ okI [0, 2] r b (I2 47 0)
def op_best (rel : MJ → Prop) : Prop := ∀ (a1 : Int32) (I : MJ), rel I → ∃ r I1 b I2, f_x_best183 a1 I = some (r, I1) ∧ f_m_best344 a1 I1 = some (b, I2) ∧ rel I2 ∧ okI [0] r b (I2 47 0)
def op_bestAt (rel : MJ → Prop) : Prop := ∀ (a1 a2 : Int32) (I : MJ), rel I → ∃ r I1 b I2, f_x_bestAt192 a1 a2 I = some (r, I1) ∧ f_m_bestAt348 a1 a2 I1 = some (b, I2) ∧ rel I2 ∧ okI [0, 1] r b (I2 47 0)
def op_clashes (rel : MJ → Prop) : Prop := ∀ (a1 : Int32) (I : MJ), rel I → ∃ r I1 b I2, f_x_clashes194 a1 I = some (r, I1) ∧ f_m_clashes349 a1 I1 = some (b, I2) ∧ rel I2 ∧ okI [0] r b (I2 47 0)
def op_mend (rel : MJ → Prop) : Prop := ∀ (a1 a2 : Int32) (I : MJ), rel I → ∃ r I1 b I2, f_x_mend198 a1 a2 I = some (r, I1) ∧ f_m_mend351 a1 a2 I1 = some (b, I2) ∧ rel I2 ∧ okI [0, 1] r b (I2 47 0)
def op_pieces (rel : MJ → Prop) : Prop := ∀ (a1 : Int32) (I : MJ), rel I → ∃ r I1 b I2, f_x_pieces203 a1 I = some (r, I1) ∧ f_m_pieces352 a1 I1 = some (b, I2) ∧ rel I2 ∧ okI [1, 2] r b (I2 47 0)
def op_sewn (rel : MJ → Prop) : Prop := ∀ (a1 a2 : Int32) (I : MJ), rel I → ∃ r I1 b I2, f_x_sewn214 a1 a2 I = some (r, I1) ∧ f_m_sewn357 a1 a2 I1 = some (b, I2) ∧ rel I2 ∧ okI [1] r b (I2 47 0)
def op_words (rel : MJ → Prop) : Prop := ∀ (a1 : Int32) (I : MJ), rel I → ∃ r I1 b I2, f_x_words220 a1 I = some (r, I1) ∧ f_m_words359 a1 I1 = some (b, I2) ∧ rel I2 ∧ okI [1] r b (I2 47 0)
def op_offers (rel : MJ → Prop) : Prop := ∀ (a1 a2 : Int32) (I : MJ), rel I → ∃ r I1 b I2, f_x_offers223 a1 a2 I = some (r, I1) ∧ f_m_offers360 a1 a2 I1 = some (b, I2) ∧ rel I2 ∧ okL [1] r b (I2 47 0)
def op_line (rel : MJ → Prop) : Prop := ∀ (a1 : Int32) (I : MJ), rel I → ∃ r I1 b I2, f_x_line228 a1 I = some (r, I1) ∧ f_m_line363 a1 I1 = some (b, I2) ∧ rel I2 ∧ okI [1] r b (I2 47 0)
def op_skies (rel : MJ → Prop) : Prop := ∀ (a1 : Int32) (I : MJ), rel I → ∃ r I1 b I2, f_x_skies230 a1 I = some (r, I1) ∧ f_m_skies364 a1 I1 = some (b, I2) ∧ rel I2 ∧ okI [0] r b (I2 47 0)
def op_which (rel : MJ → Prop) : Prop := ∀ (I : MJ), rel I → ∃ b I2, f_x_which23 I = some b ∧ f_m_which367 I = some (b, I2) ∧ rel I2
def op_look (rel : MJ → Prop) : Prop := ∀ (a1 : Int32) (I : MJ), rel I → ∃ r I1 b I2, f_x_look232 a1 I = some (r, I1) ∧ f_m_look368 a1 I1 = some (b, I2) ∧ rel I2 ∧ okI [1] r b (I2 47 0)
def op_tailors (rel : MJ → Prop) : Prop := ∀ (a1 : Int32) (I : MJ), rel I → ∃ r I1 b I2, f_x_tailors238 a1 I = some (r, I1) ∧ f_m_tailors371 a1 I1 = some (b, I2) ∧ rel I2 ∧ okI [1] r b (I2 47 0)
def op_gets (rel : MJ → Prop) : Prop := ∀ (a1 a2 : Int32) (I : MJ), rel I → ∃ r I1 b I2, f_x_gets246 a1 a2 I = some (r, I1) ∧ f_m_gets374 a1 a2 I1 = some (b, I2) ∧ rel I2 ∧ okI [0, 2] r b (I2 47 0)
def op_ahead (rel : MJ → Prop) : Prop := ∀ (a1 a2 a3 : Int32) (I : MJ), rel I → ∃ r I1 b I2, f_x_ahead248 a1 a2 a3 I = some (r, I1) ∧ f_m_ahead375 a1 a2 a3 I1 = some (b, I2) ∧ rel I2 ∧ okI [0, 1] r b (I2 47 0)
def op_years (rel : MJ → Prop) : Prop := ∀ (a1 a2 a3 a4 : Int32) (I : MJ), rel I → ∃ r I1 b I2, f_x_years251 a1 a2 a3 a4 I = some (r, I1) ∧ f_m_years376 a1 a2 a3 a4 I1 = some (b, I2) ∧ rel I2 ∧ okI [1] r b (I2 47 0)
def op_span (rel : MJ → Prop) : Prop := ∀ (a1 a2 a3 a4 a5 a6 : Int32) (I : MJ), rel I → ∃ r I1 b I2, f_x_span259 a1 a2 a3 a4 a5 a6 I = some (r, I1) ∧ f_m_span379 a1 a2 a3 a4 a5 a6 I1 = some (b, I2) ∧ rel I2 ∧ okI [1] r b (I2 47 0)
def op_image (rel : MJ → Prop) : Prop := ∀ (I : MJ), rel I → ∃ b I1 I2, f_x_image29 I = some (b, I1) ∧ f_m_image380 I1 = some (b, I2) ∧ rel I2
def op_restore (rel : MJ → Prop) : Prop := ∀ (I : MJ), rel I → ∃ b I1 I2, f_x_restore31 I = some (b, I1) ∧ f_m_restore383 I1 = some (b, I2) ∧ rel I2
def op_status (rel : MJ → Prop) : Prop := ∀ (a1 : Int32) (I : MJ), rel I → ∃ b I2, f_x_status33 a1 I = some b ∧ f_m_status384 a1 I = some (b, I2) ∧ rel I2
def op_count (rel : MJ → Prop) : Prop := ∀ (a1 : Int32) (I : MJ), rel I → ∃ b I2, f_x_count34 a1 I = some b ∧ f_m_count385 a1 I = some (b, I2) ∧ rel I2
set_option maxRecDepth 100000 in
set_option maxHeartbeats 2000000 in
theorem lc_feed {rel : MJ → Prop} (ok : op_feed rel) {X : XX} {i v : Int32} {a1 a2 a3 a4 a5 : Int32} {I : MJ} {g : GG} (hle : ¬ (Int32.ofNat X.1) - (7 : Int32) < i) (hv : rds X i = some v) (hk : v &&& (63 : Int32) = 0) (r1 : rds X (i + (1 : Int32)) = some a1) (r2 : rds X (i + (2 : Int32)) = some a2) (r3 : rds X (i + (3 : Int32)) = some a3) (r4 : rds X (i + (4 : Int32)) = some a4) (r5 : rds X (i + (5 : Int32)) = some a5) (hr : rel I) : ∃ I2 g2, l_law_body X (i, I, g) = some (.inl (i + (7 : Int32), I2, g2)) ∧ rel I2 ∧ gle g g2 := by
  obtain ⟨b, I1, I2, h1, h2, h3⟩ := ok a1 a2 a3 a4 a5 I hr
  refine ⟨I2, g, ?_, h3, gle_rf g⟩
  unfold l_law_body
  dsimp only
  rw [if_neg hle, hv, ob_some]
  rw [hk]
  simp only [if_false, if_true, r1, r2, r3, r4, r5, ob_some, h1, h2]
  try rfl
set_option maxRecDepth 100000 in
set_option maxHeartbeats 2000000 in
theorem lc_shop {rel : MJ → Prop} (ok : op_shop rel) {X : XX} {i v : Int32} {a1 : Int32} {I : MJ} {g : GG} (hle : ¬ (Int32.ofNat X.1) - (7 : Int32) < i) (hv : rds X i = some v) (hk : v &&& (63 : Int32) = 1) (r1 : rds X (i + (1 : Int32)) = some a1) (hr : rel I) : ∃ I2 g2, l_law_body X (i, I, g) = some (.inl (i + (7 : Int32), I2, g2)) ∧ rel I2 ∧ gle g g2 := by
  obtain ⟨r, I1, b, I2, h1, h2, h3, h4⟩ := ok a1 I hr
  obtain ⟨k, g2, w1, w2, w3, w4⟩ := wrap1I (g := g) h1 h4
  have w0 : f_l_shop35 a1 I g = some (k, I1, g2) := w1
  have ht : f_m_thrown265 I2 = some (I2 47 0) := rfl
  refine ⟨I2, g2, ?_, h3, w4⟩
  unfold l_law_body
  dsimp only
  rw [if_neg hle, hv, ob_some]
  rw [hk]
  simp only [if_false, if_true, r1, ob_some, w0, h2, ht]
  exact tailI w2 w3
set_option maxRecDepth 100000 in
set_option maxHeartbeats 2000000 in
theorem lc_pattern {rel : MJ → Prop} (ok : op_pattern rel) {X : XX} {i v : Int32} {a1 a2 : Int32} {I : MJ} {g : GG} (hle : ¬ (Int32.ofNat X.1) - (7 : Int32) < i) (hv : rds X i = some v) (hk : v &&& (63 : Int32) = 2) (r1 : rds X (i + (1 : Int32)) = some a1) (r2 : rds X (i + (2 : Int32)) = some a2) (hr : rel I) : ∃ I2 g2, l_law_body X (i, I, g) = some (.inl (i + (7 : Int32), I2, g2)) ∧ rel I2 ∧ gle g g2 := by
  obtain ⟨r, I1, b, I2, h1, h2, h3, h4⟩ := ok a1 a2 I hr
  obtain ⟨k, g2, w1, w2, w3, w4⟩ := wrap2I (g := g) (by decide) h1 h4
  have w0 : f_l_pattern66 a1 a2 I g = some (k, I1, g2) := w1
  have ht : f_m_thrown265 I2 = some (I2 47 0) := rfl
  refine ⟨I2, g2, ?_, h3, w4⟩
  unfold l_law_body
  dsimp only
  rw [if_neg hle, hv, ob_some]
  rw [hk]
  simp only [if_false, if_true, r1, r2, ob_some, w0, h2, ht]
  exact tailI w2 w3
set_option maxRecDepth 100000 in
set_option maxHeartbeats 2000000 in
theorem lc_law {rel : MJ → Prop} (ok : op_law rel) {X : XX} {i v : Int32} {a1 : Int32} {I : MJ} {g : GG} (hle : ¬ (Int32.ofNat X.1) - (7 : Int32) < i) (hv : rds X i = some v) (hk : v &&& (63 : Int32) = 3) (r1 : rds X (i + (1 : Int32)) = some a1) (hr : rel I) : ∃ I2 g2, l_law_body X (i, I, g) = some (.inl (i + (7 : Int32), I2, g2)) ∧ rel I2 ∧ gle g g2 := by
  obtain ⟨r, I1, b, I2, h1, h2, h3, h4⟩ := ok a1 I hr
  obtain ⟨k, g2, w1, w2, w3, w4⟩ := wrap1I (g := g) h1 h4
  have w0 : f_l_law80 X a1 I g = some (k, I1, g2) := w1
  have ht : f_m_thrown265 I2 = some (I2 47 0) := rfl
  refine ⟨I2, g2, ?_, h3, w4⟩
  unfold l_law_body
  dsimp only
  rw [if_neg hle, hv, ob_some]
  rw [hk]
  simp only [if_false, if_true, r1, ob_some, w0, h2, ht]
  exact tailI w2 w3
set_option maxRecDepth 100000 in
set_option maxHeartbeats 2000000 in
theorem lc_work {rel : MJ → Prop} (ok : op_work rel) {X : XX} {i v : Int32} {a1 : Int32} {I : MJ} {g : GG} (hle : ¬ (Int32.ofNat X.1) - (7 : Int32) < i) (hv : rds X i = some v) (hk : v &&& (63 : Int32) = 4) (r1 : rds X (i + (1 : Int32)) = some a1) (hr : rel I) : ∃ I2 g2, l_law_body X (i, I, g) = some (.inl (i + (7 : Int32), I2, g2)) ∧ rel I2 ∧ gle g g2 := by
  obtain ⟨r, I1, b, I2, h1, h2, h3, h4⟩ := ok a1 I hr
  obtain ⟨k, g2, w1, w2, w3, w4⟩ := wrap1I (g := g) h1 h4
  have w0 : f_l_work91 a1 I g = some (k, I1, g2) := w1
  have ht : f_m_thrown265 I2 = some (I2 47 0) := rfl
  refine ⟨I2, g2, ?_, h3, w4⟩
  unfold l_law_body
  dsimp only
  rw [if_neg hle, hv, ob_some]
  rw [hk]
  simp only [if_false, if_true, r1, ob_some, w0, h2, ht]
  exact tailI w2 w3
set_option maxRecDepth 100000 in
set_option maxHeartbeats 2000000 in
theorem lc_book {rel : MJ → Prop} (ok : op_book rel) {X : XX} {i v : Int32} {a1 : Int32} {I : MJ} {g : GG} (hle : ¬ (Int32.ofNat X.1) - (7 : Int32) < i) (hv : rds X i = some v) (hk : v &&& (63 : Int32) = 5) (r1 : rds X (i + (1 : Int32)) = some a1) (hr : rel I) : ∃ I2 g2, l_law_body X (i, I, g) = some (.inl (i + (7 : Int32), I2, g2)) ∧ rel I2 ∧ gle g g2 := by
  obtain ⟨r, I1, b, I2, h1, h2, h3, h4⟩ := ok a1 I hr
  obtain ⟨k, g2, w1, w2, w3, w4⟩ := wrap1I (g := g) h1 h4
  have w0 : f_l_book136 a1 I g = some (k, I1, g2) := w1
  have ht : f_m_thrown265 I2 = some (I2 47 0) := rfl
  refine ⟨I2, g2, ?_, h3, w4⟩
  unfold l_law_body
  dsimp only
  rw [if_neg hle, hv, ob_some]
  rw [hk]
  simp only [if_false, if_true, r1, ob_some, w0, h2, ht]
  exact tailI w2 w3
set_option maxRecDepth 100000 in
set_option maxHeartbeats 2000000 in
theorem lc_fault {rel : MJ → Prop} (ok : op_fault rel) {X : XX} {i v : Int32}  {I : MJ} {g : GG} (hle : ¬ (Int32.ofNat X.1) - (7 : Int32) < i) (hv : rds X i = some v) (hk : v &&& (63 : Int32) = 6)  (hr : rel I) : ∃ I2 g2, l_law_body X (i, I, g) = some (.inl (i + (7 : Int32), I2, g2)) ∧ rel I2 ∧ gle g g2 := by
  obtain ⟨b, I2, h1, h2, h3⟩ := ok  I hr
  refine ⟨I2, g, ?_, h3, gle_rf g⟩
  unfold l_law_body
  dsimp only
  rw [if_neg hle, hv, ob_some]
  rw [hk]
  simp only [if_false, if_true, ob_some, ob_some, h1, h2]
  try rfl
set_option maxRecDepth 100000 in
set_option maxHeartbeats 2000000 in
theorem lc_undo {rel : MJ → Prop} (ok : op_undo rel) {X : XX} {i v : Int32}  {I : MJ} {g : GG} (hle : ¬ (Int32.ofNat X.1) - (7 : Int32) < i) (hv : rds X i = some v) (hk : v &&& (63 : Int32) = 7)  (hr : rel I) : ∃ I2 g2, l_law_body X (i, I, g) = some (.inl (i + (7 : Int32), I2, g2)) ∧ rel I2 ∧ gle g g2 := by
  obtain ⟨b, I1, I2, h1, h2, h3⟩ := ok  I hr
  refine ⟨I2, g, ?_, h3, gle_rf g⟩
  unfold l_law_body
  dsimp only
  rw [if_neg hle, hv, ob_some]
  rw [hk]
  simp only [if_false, if_true, ob_some, ob_some, h1, h2]
  try rfl
set_option maxRecDepth 100000 in
set_option maxHeartbeats 2000000 in
theorem lc_told {rel : MJ → Prop} (ok : op_told rel) {X : XX} {i v : Int32} {a1 : Int32} {I : MJ} {g : GG} (hle : ¬ (Int32.ofNat X.1) - (7 : Int32) < i) (hv : rds X i = some v) (hk : v &&& (63 : Int32) = 8) (r1 : rds X (i + (1 : Int32)) = some a1) (hr : rel I) : ∃ I2 g2, l_law_body X (i, I, g) = some (.inl (i + (7 : Int32), I2, g2)) ∧ rel I2 ∧ gle g g2 := by
  obtain ⟨r, I1, b, I2, h1, h2, h3, h4⟩ := ok a1 I hr
  obtain ⟨k, g2, w1, w2, w3, w4⟩ := wrap1I (g := g) h1 h4
  have w0 : f_l_told140 a1 I g = some (k, I1, g2) := w1
  have ht : f_m_thrown265 I2 = some (I2 47 0) := rfl
  refine ⟨I2, g2, ?_, h3, w4⟩
  unfold l_law_body
  dsimp only
  rw [if_neg hle, hv, ob_some]
  rw [hk]
  simp only [if_false, if_true, r1, ob_some, w0, h2, ht]
  exact tailI w2 w3
set_option maxRecDepth 100000 in
set_option maxHeartbeats 2000000 in
theorem lc_bolt {rel : MJ → Prop} (ok : op_bolt rel) {X : XX} {i v : Int32} {a1 a2 : Int32} {I : MJ} {g : GG} (hle : ¬ (Int32.ofNat X.1) - (7 : Int32) < i) (hv : rds X i = some v) (hk : v &&& (63 : Int32) = 9) (r1 : rds X (i + (1 : Int32)) = some a1) (r2 : rds X (i + (2 : Int32)) = some a2) (hr : rel I) : ∃ I2 g2, l_law_body X (i, I, g) = some (.inl (i + (7 : Int32), I2, g2)) ∧ rel I2 ∧ gle g g2 := by
  obtain ⟨r, I1, b, I2, h1, h2, h3, h4⟩ := ok a1 a2 I hr
  obtain ⟨k, g2, w1, w2, w3, w4⟩ := wrap2I (g := g) (by decide) h1 h4
  have w0 : f_l_bolt145 a1 a2 I g = some (k, I1, g2) := w1
  have ht : f_m_thrown265 I2 = some (I2 47 0) := rfl
  refine ⟨I2, g2, ?_, h3, w4⟩
  unfold l_law_body
  dsimp only
  rw [if_neg hle, hv, ob_some]
  rw [hk]
  simp only [if_false, if_true, r1, r2, ob_some, w0, h2, ht]
  exact tailI w2 w3
set_option maxRecDepth 100000 in
set_option maxHeartbeats 2000000 in
theorem lc_client {rel : MJ → Prop} (ok : op_client rel) {X : XX} {i v : Int32} {a1 a2 : Int32} {I : MJ} {g : GG} (hle : ¬ (Int32.ofNat X.1) - (7 : Int32) < i) (hv : rds X i = some v) (hk : v &&& (63 : Int32) = 10) (r1 : rds X (i + (1 : Int32)) = some a1) (r2 : rds X (i + (2 : Int32)) = some a2) (hr : rel I) : ∃ I2 g2, l_law_body X (i, I, g) = some (.inl (i + (7 : Int32), I2, g2)) ∧ rel I2 ∧ gle g g2 := by
  obtain ⟨r, I1, b, I2, h1, h2, h3, h4⟩ := ok a1 a2 I hr
  obtain ⟨k, g2, w1, w2, w3, w4⟩ := wrap2I (g := g) (by decide) h1 h4
  have w0 : f_l_client148 a1 a2 I g = some (k, I1, g2) := w1
  have ht : f_m_thrown265 I2 = some (I2 47 0) := rfl
  refine ⟨I2, g2, ?_, h3, w4⟩
  unfold l_law_body
  dsimp only
  rw [if_neg hle, hv, ob_some]
  rw [hk]
  simp only [if_false, if_true, r1, r2, ob_some, w0, h2, ht]
  exact tailI w2 w3
set_option maxRecDepth 100000 in
set_option maxHeartbeats 2000000 in
theorem lc_want {rel : MJ → Prop} (ok : op_want rel) {X : XX} {i v : Int32} {a1 a2 : Int32} {I : MJ} {g : GG} (hle : ¬ (Int32.ofNat X.1) - (7 : Int32) < i) (hv : rds X i = some v) (hk : v &&& (63 : Int32) = 11) (r1 : rds X (i + (1 : Int32)) = some a1) (r2 : rds X (i + (2 : Int32)) = some a2) (hr : rel I) : ∃ I2 g2, l_law_body X (i, I, g) = some (.inl (i + (7 : Int32), I2, g2)) ∧ rel I2 ∧ gle g g2 := by
  obtain ⟨r, I1, b, I2, h1, h2, h3, h4⟩ := ok a1 a2 I hr
  obtain ⟨k, g2, w1, w2, w3, w4⟩ := wrap2I (g := g) (by decide) h1 h4
  have w0 : f_l_want156 a1 a2 I g = some (k, I1, g2) := w1
  have ht : f_m_thrown265 I2 = some (I2 47 0) := rfl
  refine ⟨I2, g2, ?_, h3, w4⟩
  unfold l_law_body
  dsimp only
  rw [if_neg hle, hv, ob_some]
  rw [hk]
  simp only [if_false, if_true, r1, r2, ob_some, w0, h2, ht]
  exact tailI w2 w3
set_option maxRecDepth 100000 in
set_option maxHeartbeats 2000000 in
theorem lc_order {rel : MJ → Prop} (ok : op_order rel) {X : XX} {i v : Int32} {a1 a2 : Int32} {I : MJ} {g : GG} (hle : ¬ (Int32.ofNat X.1) - (7 : Int32) < i) (hv : rds X i = some v) (hk : v &&& (63 : Int32) = 12) (r1 : rds X (i + (1 : Int32)) = some a1) (r2 : rds X (i + (2 : Int32)) = some a2) (hr : rel I) : ∃ I2 g2, l_law_body X (i, I, g) = some (.inl (i + (7 : Int32), I2, g2)) ∧ rel I2 ∧ gle g g2 := by
  obtain ⟨r, I1, b, I2, h1, h2, h3, h4⟩ := ok a1 a2 I hr
  obtain ⟨k, g2, w1, w2, w3, w4⟩ := wrap2I (g := g) (by decide) h1 h4
  have w0 : f_l_order159 a1 a2 I g = some (k, I1, g2) := w1
  have ht : f_m_thrown265 I2 = some (I2 47 0) := rfl
  refine ⟨I2, g2, ?_, h3, w4⟩
  unfold l_law_body
  dsimp only
  rw [if_neg hle, hv, ob_some]
  rw [hk]
  simp only [if_false, if_true, r1, r2, ob_some, w0, h2, ht]
  exact tailI w2 w3
set_option maxRecDepth 100000 in
set_option maxHeartbeats 2000000 in
theorem lc_wears {rel : MJ → Prop} (ok : op_wears rel) {X : XX} {i v : Int32} {a1 a2 : Int32} {I : MJ} {g : GG} (hle : ¬ (Int32.ofNat X.1) - (7 : Int32) < i) (hv : rds X i = some v) (hk : v &&& (63 : Int32) = 13) (r1 : rds X (i + (1 : Int32)) = some a1) (r2 : rds X (i + (2 : Int32)) = some a2) (hr : rel I) : ∃ I2 g2, l_law_body X (i, I, g) = some (.inl (i + (7 : Int32), I2, g2)) ∧ rel I2 ∧ gle g g2 := by
  obtain ⟨r, I1, b, I2, h1, h2, h3, h4⟩ := ok a1 a2 I hr
  obtain ⟨k, g2, w1, w2, w3, w4⟩ := wrap2I (g := g) (by decide) h1 h4
  have w0 : f_l_wears161 a1 a2 I g = some (k, I1, g2) := w1
  have ht : f_m_thrown265 I2 = some (I2 47 0) := rfl
  refine ⟨I2, g2, ?_, h3, w4⟩
  unfold l_law_body
  dsimp only
  rw [if_neg hle, hv, ob_some]
  rw [hk]
  simp only [if_false, if_true, r1, r2, ob_some, w0, h2, ht]
  exact tailI w2 w3
set_option maxRecDepth 100000 in
set_option maxHeartbeats 2000000 in
theorem lc_sky {rel : MJ → Prop} (ok : op_sky rel) {X : XX} {i v : Int32} {a1 a2 : Int32} {I : MJ} {g : GG} (hle : ¬ (Int32.ofNat X.1) - (7 : Int32) < i) (hv : rds X i = some v) (hk : v &&& (63 : Int32) = 14) (r1 : rds X (i + (1 : Int32)) = some a1) (r2 : rds X (i + (2 : Int32)) = some a2) (hr : rel I) : ∃ I2 g2, l_law_body X (i, I, g) = some (.inl (i + (7 : Int32), I2, g2)) ∧ rel I2 ∧ gle g g2 := by
  obtain ⟨r, I1, b, I2, h1, h2, h3, h4⟩ := ok a1 a2 I hr
  obtain ⟨k, g2, w1, w2, w3, w4⟩ := wrap2I (g := g) (by decide) h1 h4
  have w0 : f_l_sky163 a1 a2 I g = some (k, I1, g2) := w1
  have ht : f_m_thrown265 I2 = some (I2 47 0) := rfl
  refine ⟨I2, g2, ?_, h3, w4⟩
  unfold l_law_body
  dsimp only
  rw [if_neg hle, hv, ob_some]
  rw [hk]
  simp only [if_false, if_true, r1, r2, ob_some, w0, h2, ht]
  exact tailI w2 w3
set_option maxRecDepth 100000 in
set_option maxHeartbeats 2000000 in
theorem lc_cloth {rel : MJ → Prop} (ok : op_cloth rel) {X : XX} {i v : Int32} {a1 a2 : Int32} {I : MJ} {g : GG} (hle : ¬ (Int32.ofNat X.1) - (7 : Int32) < i) (hv : rds X i = some v) (hk : v &&& (63 : Int32) = 15) (r1 : rds X (i + (1 : Int32)) = some a1) (r2 : rds X (i + (2 : Int32)) = some a2) (hr : rel I) : ∃ I2 g2, l_law_body X (i, I, g) = some (.inl (i + (7 : Int32), I2, g2)) ∧ rel I2 ∧ gle g g2 := by
  obtain ⟨r, I1, b, I2, h1, h2, h3, h4⟩ := ok a1 a2 I hr
  obtain ⟨k, g2, w1, w2, w3, w4⟩ := wrap1I (g := g) h1 h4
  have w0 : f_l_cloth165 a1 a2 I g = some (k, I1, g2) := w1
  have ht : f_m_thrown265 I2 = some (I2 47 0) := rfl
  refine ⟨I2, g2, ?_, h3, w4⟩
  unfold l_law_body
  dsimp only
  rw [if_neg hle, hv, ob_some]
  rw [hk]
  simp only [if_false, if_true, r1, r2, ob_some, w0, h2, ht]
  exact tailI w2 w3
set_option maxRecDepth 100000 in
set_option maxHeartbeats 2000000 in
theorem lc_can {rel : MJ → Prop} (ok : op_can rel) {X : XX} {i v : Int32} {a1 a2 : Int32} {I : MJ} {g : GG} (hle : ¬ (Int32.ofNat X.1) - (7 : Int32) < i) (hv : rds X i = some v) (hk : v &&& (63 : Int32) = 16) (r1 : rds X (i + (1 : Int32)) = some a1) (r2 : rds X (i + (2 : Int32)) = some a2) (hr : rel I) : ∃ I2 g2, l_law_body X (i, I, g) = some (.inl (i + (7 : Int32), I2, g2)) ∧ rel I2 ∧ gle g g2 := by
  obtain ⟨r, I1, b, I2, h1, h2, h3, h4⟩ := ok a1 a2 I hr
  obtain ⟨k, g2, w1, w2, w3, w4⟩ := wrap1B (g := g) h1 h4
  have w0 : f_l_can170 a1 a2 I g = some (k, I1, g2) := w1
  have ht : f_m_thrown265 I2 = some (I2 47 0) := rfl
  refine ⟨I2, g2, ?_, h3, w4⟩
  unfold l_law_body
  dsimp only
  rw [if_neg hle, hv, ob_some]
  rw [hk]
  simp only [if_false, if_true, r1, r2, ob_some, w0, h2, ht]
  exact tailB w2 w3
set_option maxRecDepth 100000 in
set_option maxHeartbeats 2000000 in
theorem lc_ready {rel : MJ → Prop} (ok : op_ready rel) {X : XX} {i v : Int32} {a1 : Int32} {I : MJ} {g : GG} (hle : ¬ (Int32.ofNat X.1) - (7 : Int32) < i) (hv : rds X i = some v) (hk : v &&& (63 : Int32) = 17) (r1 : rds X (i + (1 : Int32)) = some a1) (hr : rel I) : ∃ I2 g2, l_law_body X (i, I, g) = some (.inl (i + (7 : Int32), I2, g2)) ∧ rel I2 ∧ gle g g2 := by
  obtain ⟨r, I1, b, I2, h1, h2, h3, h4⟩ := ok a1 I hr
  obtain ⟨k, g2, w1, w2, w3, w4⟩ := wrap1B (g := g) h1 h4
  have w0 : f_l_ready172 a1 I g = some (k, I1, g2) := w1
  have ht : f_m_thrown265 I2 = some (I2 47 0) := rfl
  refine ⟨I2, g2, ?_, h3, w4⟩
  unfold l_law_body
  dsimp only
  rw [if_neg hle, hv, ob_some]
  rw [hk]
  simp only [if_false, if_true, r1, ob_some, w0, h2, ht]
  exact tailB w2 w3
set_option maxRecDepth 100000 in
set_option maxHeartbeats 2000000 in
theorem lc_fit {rel : MJ → Prop} (ok : op_fit rel) {X : XX} {i v : Int32} {a1 : Int32} {I : MJ} {g : GG} (hle : ¬ (Int32.ofNat X.1) - (7 : Int32) < i) (hv : rds X i = some v) (hk : v &&& (63 : Int32) = 18) (r1 : rds X (i + (1 : Int32)) = some a1) (hr : rel I) : ∃ I2 g2, l_law_body X (i, I, g) = some (.inl (i + (7 : Int32), I2, g2)) ∧ rel I2 ∧ gle g g2 := by
  obtain ⟨r, I1, b, I2, h1, h2, h3, h4⟩ := ok a1 I hr
  obtain ⟨k, g2, w1, w2, w3, w4⟩ := wrap1I (g := g) h1 h4
  have w0 : f_l_fit174 a1 I g = some (k, I1, g2) := w1
  have ht : f_m_thrown265 I2 = some (I2 47 0) := rfl
  refine ⟨I2, g2, ?_, h3, w4⟩
  unfold l_law_body
  dsimp only
  rw [if_neg hle, hv, ob_some]
  rw [hk]
  simp only [if_false, if_true, r1, ob_some, w0, h2, ht]
  exact tailI w2 w3
set_option maxRecDepth 100000 in
set_option maxHeartbeats 2000000 in
theorem lc_tries {rel : MJ → Prop} (ok : op_tries rel) {X : XX} {i v : Int32} {a1 a2 : Int32} {I : MJ} {g : GG} (hle : ¬ (Int32.ofNat X.1) - (7 : Int32) < i) (hv : rds X i = some v) (hk : v &&& (63 : Int32) = 19) (r1 : rds X (i + (1 : Int32)) = some a1) (r2 : rds X (i + (2 : Int32)) = some a2) (hr : rel I) : ∃ I2 g2, l_law_body X (i, I, g) = some (.inl (i + (7 : Int32), I2, g2)) ∧ rel I2 ∧ gle g g2 := by
  obtain ⟨r, I1, b, I2, h1, h2, h3, h4⟩ := ok a1 a2 I hr
  obtain ⟨k, g2, w1, w2, w3, w4⟩ := wrap2I (g := g) (by decide) h1 h4
  have w0 : f_l_tries178 a1 a2 I g = some (k, I1, g2) := w1
  have ht : f_m_thrown265 I2 = some (I2 47 0) := rfl
  refine ⟨I2, g2, ?_, h3, w4⟩
  unfold l_law_body
  dsimp only
  rw [if_neg hle, hv, ob_some]
  rw [hk]
  simp only [if_false, if_true, r1, r2, ob_some, w0, h2, ht]
  exact tailI w2 w3
set_option maxRecDepth 100000 in
set_option maxHeartbeats 2000000 in
theorem lc_best {rel : MJ → Prop} (ok : op_best rel) {X : XX} {i v : Int32} {a1 : Int32} {I : MJ} {g : GG} (hle : ¬ (Int32.ofNat X.1) - (7 : Int32) < i) (hv : rds X i = some v) (hk : v &&& (63 : Int32) = 20) (r1 : rds X (i + (1 : Int32)) = some a1) (hr : rel I) : ∃ I2 g2, l_law_body X (i, I, g) = some (.inl (i + (7 : Int32), I2, g2)) ∧ rel I2 ∧ gle g g2 := by
  obtain ⟨r, I1, b, I2, h1, h2, h3, h4⟩ := ok a1 I hr
  obtain ⟨k, g2, w1, w2, w3, w4⟩ := wrap1I (g := g) h1 h4
  have w0 : f_l_best182 a1 I g = some (k, I1, g2) := w1
  have ht : f_m_thrown265 I2 = some (I2 47 0) := rfl
  refine ⟨I2, g2, ?_, h3, w4⟩
  unfold l_law_body
  dsimp only
  rw [if_neg hle, hv, ob_some]
  rw [hk]
  simp only [if_false, if_true, r1, ob_some, w0, h2, ht]
  exact tailI w2 w3
set_option maxRecDepth 100000 in
set_option maxHeartbeats 2000000 in
theorem lc_bestAt {rel : MJ → Prop} (ok : op_bestAt rel) {X : XX} {i v : Int32} {a1 a2 : Int32} {I : MJ} {g : GG} (hle : ¬ (Int32.ofNat X.1) - (7 : Int32) < i) (hv : rds X i = some v) (hk : v &&& (63 : Int32) = 21) (r1 : rds X (i + (1 : Int32)) = some a1) (r2 : rds X (i + (2 : Int32)) = some a2) (hr : rel I) : ∃ I2 g2, l_law_body X (i, I, g) = some (.inl (i + (7 : Int32), I2, g2)) ∧ rel I2 ∧ gle g g2 := by
  obtain ⟨r, I1, b, I2, h1, h2, h3, h4⟩ := ok a1 a2 I hr
  obtain ⟨k, g2, w1, w2, w3, w4⟩ := wrap2I (g := g) (by decide) h1 h4
  have w0 : f_l_bestAt191 a1 a2 I g = some (k, I1, g2) := w1
  have ht : f_m_thrown265 I2 = some (I2 47 0) := rfl
  refine ⟨I2, g2, ?_, h3, w4⟩
  unfold l_law_body
  dsimp only
  rw [if_neg hle, hv, ob_some]
  rw [hk]
  simp only [if_false, if_true, r1, r2, ob_some, w0, h2, ht]
  exact tailI w2 w3
set_option maxRecDepth 100000 in
set_option maxHeartbeats 2000000 in
theorem lc_clashes {rel : MJ → Prop} (ok : op_clashes rel) {X : XX} {i v : Int32} {a1 : Int32} {I : MJ} {g : GG} (hle : ¬ (Int32.ofNat X.1) - (7 : Int32) < i) (hv : rds X i = some v) (hk : v &&& (63 : Int32) = 22) (r1 : rds X (i + (1 : Int32)) = some a1) (hr : rel I) : ∃ I2 g2, l_law_body X (i, I, g) = some (.inl (i + (7 : Int32), I2, g2)) ∧ rel I2 ∧ gle g g2 := by
  obtain ⟨r, I1, b, I2, h1, h2, h3, h4⟩ := ok a1 I hr
  obtain ⟨k, g2, w1, w2, w3, w4⟩ := wrap1I (g := g) h1 h4
  have w0 : f_l_clashes193 a1 I g = some (k, I1, g2) := w1
  have ht : f_m_thrown265 I2 = some (I2 47 0) := rfl
  refine ⟨I2, g2, ?_, h3, w4⟩
  unfold l_law_body
  dsimp only
  rw [if_neg hle, hv, ob_some]
  rw [hk]
  simp only [if_false, if_true, r1, ob_some, w0, h2, ht]
  exact tailI w2 w3
set_option maxRecDepth 100000 in
set_option maxHeartbeats 2000000 in
theorem lc_mend {rel : MJ → Prop} (ok : op_mend rel) {X : XX} {i v : Int32} {a1 a2 : Int32} {I : MJ} {g : GG} (hle : ¬ (Int32.ofNat X.1) - (7 : Int32) < i) (hv : rds X i = some v) (hk : v &&& (63 : Int32) = 23) (r1 : rds X (i + (1 : Int32)) = some a1) (r2 : rds X (i + (2 : Int32)) = some a2) (hr : rel I) : ∃ I2 g2, l_law_body X (i, I, g) = some (.inl (i + (7 : Int32), I2, g2)) ∧ rel I2 ∧ gle g g2 := by
  obtain ⟨r, I1, b, I2, h1, h2, h3, h4⟩ := ok a1 a2 I hr
  obtain ⟨k, g2, w1, w2, w3, w4⟩ := wrap2I (g := g) (by decide) h1 h4
  have w0 : f_l_mend197 a1 a2 I g = some (k, I1, g2) := w1
  have ht : f_m_thrown265 I2 = some (I2 47 0) := rfl
  refine ⟨I2, g2, ?_, h3, w4⟩
  unfold l_law_body
  dsimp only
  rw [if_neg hle, hv, ob_some]
  rw [hk]
  simp only [if_false, if_true, r1, r2, ob_some, w0, h2, ht]
  exact tailI w2 w3
set_option maxRecDepth 100000 in
set_option maxHeartbeats 2000000 in
theorem lc_pieces {rel : MJ → Prop} (ok : op_pieces rel) {X : XX} {i v : Int32} {a1 : Int32} {I : MJ} {g : GG} (hle : ¬ (Int32.ofNat X.1) - (7 : Int32) < i) (hv : rds X i = some v) (hk : v &&& (63 : Int32) = 24) (r1 : rds X (i + (1 : Int32)) = some a1) (hr : rel I) : ∃ I2 g2, l_law_body X (i, I, g) = some (.inl (i + (7 : Int32), I2, g2)) ∧ rel I2 ∧ gle g g2 := by
  obtain ⟨r, I1, b, I2, h1, h2, h3, h4⟩ := ok a1 I hr
  obtain ⟨k, g2, w1, w2, w3, w4⟩ := wrap2I (g := g) (by decide) h1 h4
  have w0 : f_l_pieces202 a1 I g = some (k, I1, g2) := w1
  have ht : f_m_thrown265 I2 = some (I2 47 0) := rfl
  refine ⟨I2, g2, ?_, h3, w4⟩
  unfold l_law_body
  dsimp only
  rw [if_neg hle, hv, ob_some]
  rw [hk]
  simp only [if_false, if_true, r1, ob_some, w0, h2, ht]
  exact tailI w2 w3
set_option maxRecDepth 100000 in
set_option maxHeartbeats 2000000 in
theorem lc_sewn {rel : MJ → Prop} (ok : op_sewn rel) {X : XX} {i v : Int32} {a1 a2 : Int32} {I : MJ} {g : GG} (hle : ¬ (Int32.ofNat X.1) - (7 : Int32) < i) (hv : rds X i = some v) (hk : v &&& (63 : Int32) = 25) (r1 : rds X (i + (1 : Int32)) = some a1) (r2 : rds X (i + (2 : Int32)) = some a2) (hr : rel I) : ∃ I2 g2, l_law_body X (i, I, g) = some (.inl (i + (7 : Int32), I2, g2)) ∧ rel I2 ∧ gle g g2 := by
  obtain ⟨r, I1, b, I2, h1, h2, h3, h4⟩ := ok a1 a2 I hr
  obtain ⟨k, g2, w1, w2, w3, w4⟩ := wrap1I (g := g) h1 h4
  have w0 : f_l_sewn213 a1 a2 I g = some (k, I1, g2) := w1
  have ht : f_m_thrown265 I2 = some (I2 47 0) := rfl
  refine ⟨I2, g2, ?_, h3, w4⟩
  unfold l_law_body
  dsimp only
  rw [if_neg hle, hv, ob_some]
  rw [hk]
  simp only [if_false, if_true, r1, r2, ob_some, w0, h2, ht]
  exact tailI w2 w3
set_option maxRecDepth 100000 in
set_option maxHeartbeats 2000000 in
theorem lc_words {rel : MJ → Prop} (ok : op_words rel) {X : XX} {i v : Int32} {a1 : Int32} {I : MJ} {g : GG} (hle : ¬ (Int32.ofNat X.1) - (7 : Int32) < i) (hv : rds X i = some v) (hk : v &&& (63 : Int32) = 26) (r1 : rds X (i + (1 : Int32)) = some a1) (hr : rel I) : ∃ I2 g2, l_law_body X (i, I, g) = some (.inl (i + (7 : Int32), I2, g2)) ∧ rel I2 ∧ gle g g2 := by
  obtain ⟨r, I1, b, I2, h1, h2, h3, h4⟩ := ok a1 I hr
  obtain ⟨k, g2, w1, w2, w3, w4⟩ := wrap1I (g := g) h1 h4
  have w0 : f_l_words219 a1 I g = some (k, I1, g2) := w1
  have ht : f_m_thrown265 I2 = some (I2 47 0) := rfl
  refine ⟨I2, g2, ?_, h3, w4⟩
  unfold l_law_body
  dsimp only
  rw [if_neg hle, hv, ob_some]
  rw [hk]
  simp only [if_false, if_true, r1, ob_some, w0, h2, ht]
  exact tailI w2 w3
set_option maxRecDepth 100000 in
set_option maxHeartbeats 2000000 in
theorem lc_offers {rel : MJ → Prop} (ok : op_offers rel) {X : XX} {i v : Int32} {a1 a2 : Int32} {I : MJ} {g : GG} (hle : ¬ (Int32.ofNat X.1) - (7 : Int32) < i) (hv : rds X i = some v) (hk : v &&& (63 : Int32) = 27) (r1 : rds X (i + (1 : Int32)) = some a1) (r2 : rds X (i + (2 : Int32)) = some a2) (hr : rel I) : ∃ I2 g2, l_law_body X (i, I, g) = some (.inl (i + (7 : Int32), I2, g2)) ∧ rel I2 ∧ gle g g2 := by
  obtain ⟨r, I1, b, I2, h1, h2, h3, h4⟩ := ok a1 a2 I hr
  obtain ⟨k, g2, w1, w2, w3, w4⟩ := wrap1L (g := g) h1 h4
  have w0 : f_l_offers222 a1 a2 I g = some (k, I1, g2) := w1
  have ht : f_m_thrown265 I2 = some (I2 47 0) := rfl
  refine ⟨I2, g2, ?_, h3, w4⟩
  unfold l_law_body
  dsimp only
  rw [if_neg hle, hv, ob_some]
  rw [hk]
  simp only [if_false, if_true, r1, r2, ob_some, w0, h2, ht]
  exact tailL w2 w3
set_option maxRecDepth 100000 in
set_option maxHeartbeats 2000000 in
theorem lc_line {rel : MJ → Prop} (ok : op_line rel) {X : XX} {i v : Int32} {a1 : Int32} {I : MJ} {g : GG} (hle : ¬ (Int32.ofNat X.1) - (7 : Int32) < i) (hv : rds X i = some v) (hk : v &&& (63 : Int32) = 28) (r1 : rds X (i + (1 : Int32)) = some a1) (hr : rel I) : ∃ I2 g2, l_law_body X (i, I, g) = some (.inl (i + (7 : Int32), I2, g2)) ∧ rel I2 ∧ gle g g2 := by
  obtain ⟨r, I1, b, I2, h1, h2, h3, h4⟩ := ok a1 I hr
  obtain ⟨k, g2, w1, w2, w3, w4⟩ := wrap1I (g := g) h1 h4
  have w0 : f_l_line227 a1 I g = some (k, I1, g2) := w1
  have ht : f_m_thrown265 I2 = some (I2 47 0) := rfl
  refine ⟨I2, g2, ?_, h3, w4⟩
  unfold l_law_body
  dsimp only
  rw [if_neg hle, hv, ob_some]
  rw [hk]
  simp only [if_false, if_true, r1, ob_some, w0, h2, ht]
  exact tailI w2 w3
set_option maxRecDepth 100000 in
set_option maxHeartbeats 2000000 in
theorem lc_skies {rel : MJ → Prop} (ok : op_skies rel) {X : XX} {i v : Int32} {a1 : Int32} {I : MJ} {g : GG} (hle : ¬ (Int32.ofNat X.1) - (7 : Int32) < i) (hv : rds X i = some v) (hk : v &&& (63 : Int32) = 29) (r1 : rds X (i + (1 : Int32)) = some a1) (hr : rel I) : ∃ I2 g2, l_law_body X (i, I, g) = some (.inl (i + (7 : Int32), I2, g2)) ∧ rel I2 ∧ gle g g2 := by
  obtain ⟨r, I1, b, I2, h1, h2, h3, h4⟩ := ok a1 I hr
  obtain ⟨k, g2, w1, w2, w3, w4⟩ := wrap1I (g := g) h1 h4
  have w0 : f_l_skies229 a1 I g = some (k, I1, g2) := w1
  have ht : f_m_thrown265 I2 = some (I2 47 0) := rfl
  refine ⟨I2, g2, ?_, h3, w4⟩
  unfold l_law_body
  dsimp only
  rw [if_neg hle, hv, ob_some]
  rw [hk]
  simp only [if_false, if_true, r1, ob_some, w0, h2, ht]
  exact tailI w2 w3
set_option maxRecDepth 100000 in
set_option maxHeartbeats 2000000 in
theorem lc_which {rel : MJ → Prop} (ok : op_which rel) {X : XX} {i v : Int32}  {I : MJ} {g : GG} (hle : ¬ (Int32.ofNat X.1) - (7 : Int32) < i) (hv : rds X i = some v) (hk : v &&& (63 : Int32) = 30)  (hr : rel I) : ∃ I2 g2, l_law_body X (i, I, g) = some (.inl (i + (7 : Int32), I2, g2)) ∧ rel I2 ∧ gle g g2 := by
  obtain ⟨b, I2, h1, h2, h3⟩ := ok  I hr
  refine ⟨I2, g, ?_, h3, gle_rf g⟩
  unfold l_law_body
  dsimp only
  rw [if_neg hle, hv, ob_some]
  rw [hk]
  simp only [if_false, if_true, ob_some, ob_some, h1, h2]
  try rfl
set_option maxRecDepth 100000 in
set_option maxHeartbeats 2000000 in
theorem lc_look {rel : MJ → Prop} (ok : op_look rel) {X : XX} {i v : Int32} {a1 : Int32} {I : MJ} {g : GG} (hle : ¬ (Int32.ofNat X.1) - (7 : Int32) < i) (hv : rds X i = some v) (hk : v &&& (63 : Int32) = 31) (r1 : rds X (i + (1 : Int32)) = some a1) (hr : rel I) : ∃ I2 g2, l_law_body X (i, I, g) = some (.inl (i + (7 : Int32), I2, g2)) ∧ rel I2 ∧ gle g g2 := by
  obtain ⟨r, I1, b, I2, h1, h2, h3, h4⟩ := ok a1 I hr
  obtain ⟨k, g2, w1, w2, w3, w4⟩ := wrap1I (g := g) h1 h4
  have w0 : f_l_look231 a1 I g = some (k, I1, g2) := w1
  have ht : f_m_thrown265 I2 = some (I2 47 0) := rfl
  refine ⟨I2, g2, ?_, h3, w4⟩
  unfold l_law_body
  dsimp only
  rw [if_neg hle, hv, ob_some]
  rw [hk]
  simp only [if_false, if_true, r1, ob_some, w0, h2, ht]
  exact tailI w2 w3
set_option maxRecDepth 100000 in
set_option maxHeartbeats 2000000 in
theorem lc_tailors {rel : MJ → Prop} (ok : op_tailors rel) {X : XX} {i v : Int32} {a1 : Int32} {I : MJ} {g : GG} (hle : ¬ (Int32.ofNat X.1) - (7 : Int32) < i) (hv : rds X i = some v) (hk : v &&& (63 : Int32) = 32) (r1 : rds X (i + (1 : Int32)) = some a1) (hr : rel I) : ∃ I2 g2, l_law_body X (i, I, g) = some (.inl (i + (7 : Int32), I2, g2)) ∧ rel I2 ∧ gle g g2 := by
  obtain ⟨r, I1, b, I2, h1, h2, h3, h4⟩ := ok a1 I hr
  obtain ⟨k, g2, w1, w2, w3, w4⟩ := wrap1I (g := g) h1 h4
  have w0 : f_l_tailors237 a1 I g = some (k, I1, g2) := w1
  have ht : f_m_thrown265 I2 = some (I2 47 0) := rfl
  refine ⟨I2, g2, ?_, h3, w4⟩
  unfold l_law_body
  dsimp only
  rw [if_neg hle, hv, ob_some]
  rw [hk]
  simp only [if_false, if_true, r1, ob_some, w0, h2, ht]
  exact tailI w2 w3
set_option maxRecDepth 100000 in
set_option maxHeartbeats 2000000 in
theorem lc_gets {rel : MJ → Prop} (ok : op_gets rel) {X : XX} {i v : Int32} {a1 a2 : Int32} {I : MJ} {g : GG} (hle : ¬ (Int32.ofNat X.1) - (7 : Int32) < i) (hv : rds X i = some v) (hk : v &&& (63 : Int32) = 33) (r1 : rds X (i + (1 : Int32)) = some a1) (r2 : rds X (i + (2 : Int32)) = some a2) (hr : rel I) : ∃ I2 g2, l_law_body X (i, I, g) = some (.inl (i + (7 : Int32), I2, g2)) ∧ rel I2 ∧ gle g g2 := by
  obtain ⟨r, I1, b, I2, h1, h2, h3, h4⟩ := ok a1 a2 I hr
  obtain ⟨k, g2, w1, w2, w3, w4⟩ := wrap2I (g := g) (by decide) h1 h4
  have w0 : f_l_gets245 a1 a2 I g = some (k, I1, g2) := w1
  have ht : f_m_thrown265 I2 = some (I2 47 0) := rfl
  refine ⟨I2, g2, ?_, h3, w4⟩
  unfold l_law_body
  dsimp only
  rw [if_neg hle, hv, ob_some]
  rw [hk]
  simp only [if_false, if_true, r1, r2, ob_some, w0, h2, ht]
  exact tailI w2 w3
set_option maxRecDepth 100000 in
set_option maxHeartbeats 2000000 in
theorem lc_ahead {rel : MJ → Prop} (ok : op_ahead rel) {X : XX} {i v : Int32} {a1 a2 a3 : Int32} {I : MJ} {g : GG} (hle : ¬ (Int32.ofNat X.1) - (7 : Int32) < i) (hv : rds X i = some v) (hk : v &&& (63 : Int32) = 34) (r1 : rds X (i + (1 : Int32)) = some a1) (r2 : rds X (i + (2 : Int32)) = some a2) (r3 : rds X (i + (3 : Int32)) = some a3) (hr : rel I) : ∃ I2 g2, l_law_body X (i, I, g) = some (.inl (i + (7 : Int32), I2, g2)) ∧ rel I2 ∧ gle g g2 := by
  obtain ⟨r, I1, b, I2, h1, h2, h3, h4⟩ := ok a1 a2 a3 I hr
  obtain ⟨k, g2, w1, w2, w3, w4⟩ := wrap2I (g := g) (by decide) h1 h4
  have w0 : f_l_ahead247 a1 a2 a3 I g = some (k, I1, g2) := w1
  have ht : f_m_thrown265 I2 = some (I2 47 0) := rfl
  refine ⟨I2, g2, ?_, h3, w4⟩
  unfold l_law_body
  dsimp only
  rw [if_neg hle, hv, ob_some]
  rw [hk]
  simp only [if_false, if_true, r1, r2, r3, ob_some, w0, h2, ht]
  exact tailI w2 w3
set_option maxRecDepth 100000 in
set_option maxHeartbeats 2000000 in
theorem lc_years {rel : MJ → Prop} (ok : op_years rel) {X : XX} {i v : Int32} {a1 a2 a3 a4 : Int32} {I : MJ} {g : GG} (hle : ¬ (Int32.ofNat X.1) - (7 : Int32) < i) (hv : rds X i = some v) (hk : v &&& (63 : Int32) = 35) (r1 : rds X (i + (1 : Int32)) = some a1) (r2 : rds X (i + (2 : Int32)) = some a2) (r3 : rds X (i + (3 : Int32)) = some a3) (r4 : rds X (i + (4 : Int32)) = some a4) (hr : rel I) : ∃ I2 g2, l_law_body X (i, I, g) = some (.inl (i + (7 : Int32), I2, g2)) ∧ rel I2 ∧ gle g g2 := by
  obtain ⟨r, I1, b, I2, h1, h2, h3, h4⟩ := ok a1 a2 a3 a4 I hr
  obtain ⟨k, g2, w1, w2, w3, w4⟩ := wrap1I (g := g) h1 h4
  have w0 : f_l_years250 a1 a2 a3 a4 I g = some (k, I1, g2) := w1
  have ht : f_m_thrown265 I2 = some (I2 47 0) := rfl
  refine ⟨I2, g2, ?_, h3, w4⟩
  unfold l_law_body
  dsimp only
  rw [if_neg hle, hv, ob_some]
  rw [hk]
  simp only [if_false, if_true, r1, r2, r3, r4, ob_some, w0, h2, ht]
  exact tailI w2 w3
set_option maxRecDepth 100000 in
set_option maxHeartbeats 2000000 in
theorem lc_span {rel : MJ → Prop} (ok : op_span rel) {X : XX} {i v : Int32} {a1 a2 a3 a4 a5 a6 : Int32} {I : MJ} {g : GG} (hle : ¬ (Int32.ofNat X.1) - (7 : Int32) < i) (hv : rds X i = some v) (hk : v &&& (63 : Int32) = 36) (r1 : rds X (i + (1 : Int32)) = some a1) (r2 : rds X (i + (2 : Int32)) = some a2) (r3 : rds X (i + (3 : Int32)) = some a3) (r4 : rds X (i + (4 : Int32)) = some a4) (r5 : rds X (i + (5 : Int32)) = some a5) (r6 : rds X (i + (6 : Int32)) = some a6) (hr : rel I) : ∃ I2 g2, l_law_body X (i, I, g) = some (.inl (i + (7 : Int32), I2, g2)) ∧ rel I2 ∧ gle g g2 := by
  obtain ⟨r, I1, b, I2, h1, h2, h3, h4⟩ := ok a1 a2 a3 a4 a5 a6 I hr
  obtain ⟨k, g2, w1, w2, w3, w4⟩ := wrap1I (g := g) h1 h4
  have w0 : f_l_span258 a1 a2 a3 a4 a5 a6 I g = some (k, I1, g2) := w1
  have ht : f_m_thrown265 I2 = some (I2 47 0) := rfl
  refine ⟨I2, g2, ?_, h3, w4⟩
  unfold l_law_body
  dsimp only
  rw [if_neg hle, hv, ob_some]
  rw [hk]
  simp only [if_false, if_true, r1, r2, r3, r4, r5, r6, ob_some, w0, h2, ht]
  exact tailI w2 w3
set_option maxRecDepth 100000 in
set_option maxHeartbeats 2000000 in
theorem lc_image {rel : MJ → Prop} (ok : op_image rel) {X : XX} {i v : Int32}  {I : MJ} {g : GG} (hle : ¬ (Int32.ofNat X.1) - (7 : Int32) < i) (hv : rds X i = some v) (hk : v &&& (63 : Int32) = 37)  (hr : rel I) : ∃ I2 g2, l_law_body X (i, I, g) = some (.inl (i + (7 : Int32), I2, g2)) ∧ rel I2 ∧ gle g g2 := by
  obtain ⟨b, I1, I2, h1, h2, h3⟩ := ok  I hr
  refine ⟨I2, g, ?_, h3, gle_rf g⟩
  unfold l_law_body
  dsimp only
  rw [if_neg hle, hv, ob_some]
  rw [hk]
  simp only [if_false, if_true, ob_some, ob_some, h1, h2]
  try rfl
set_option maxRecDepth 100000 in
set_option maxHeartbeats 2000000 in
theorem lc_restore {rel : MJ → Prop} (ok : op_restore rel) {X : XX} {i v : Int32}  {I : MJ} {g : GG} (hle : ¬ (Int32.ofNat X.1) - (7 : Int32) < i) (hv : rds X i = some v) (hk : v &&& (63 : Int32) = 38)  (hr : rel I) : ∃ I2 g2, l_law_body X (i, I, g) = some (.inl (i + (7 : Int32), I2, g2)) ∧ rel I2 ∧ gle g g2 := by
  obtain ⟨b, I1, I2, h1, h2, h3⟩ := ok  I hr
  refine ⟨I2, g, ?_, h3, gle_rf g⟩
  unfold l_law_body
  dsimp only
  rw [if_neg hle, hv, ob_some]
  rw [hk]
  simp only [if_false, if_true, ob_some, ob_some, h1, h2]
  try rfl
set_option maxRecDepth 100000 in
set_option maxHeartbeats 2000000 in
theorem lc_status {rel : MJ → Prop} (ok : op_status rel) {X : XX} {i v : Int32} {a1 : Int32} {I : MJ} {g : GG} (hle : ¬ (Int32.ofNat X.1) - (7 : Int32) < i) (hv : rds X i = some v) (hk : v &&& (63 : Int32) = 39) (r1 : rds X (i + (1 : Int32)) = some a1) (hr : rel I) : ∃ I2 g2, l_law_body X (i, I, g) = some (.inl (i + (7 : Int32), I2, g2)) ∧ rel I2 ∧ gle g g2 := by
  obtain ⟨b, I2, h1, h2, h3⟩ := ok a1 I hr
  refine ⟨I2, g, ?_, h3, gle_rf g⟩
  unfold l_law_body
  dsimp only
  rw [if_neg hle, hv, ob_some]
  rw [hk]
  simp only [if_false, if_true, r1, ob_some, h1, h2]
  try rfl
set_option maxRecDepth 100000 in
set_option maxHeartbeats 2000000 in
theorem lc_count {rel : MJ → Prop} (ok : op_count rel) {X : XX} {i v : Int32} {a1 : Int32} {I : MJ} {g : GG} (hle : ¬ (Int32.ofNat X.1) - (7 : Int32) < i) (hv : rds X i = some v) (hk : v &&& (63 : Int32) = 40) (r1 : rds X (i + (1 : Int32)) = some a1) (hr : rel I) : ∃ I2 g2, l_law_body X (i, I, g) = some (.inl (i + (7 : Int32), I2, g2)) ∧ rel I2 ∧ gle g g2 := by
  obtain ⟨b, I2, h1, h2, h3⟩ := ok a1 I hr
  refine ⟨I2, g, ?_, h3, gle_rf g⟩
  unfold l_law_body
  dsimp only
  rw [if_neg hle, hv, ob_some]
  rw [hk]
  simp only [if_false, if_true, r1, ob_some, h1, h2]
  try rfl
set_option maxRecDepth 100000 in
set_option maxHeartbeats 2000000 in
theorem lc_default {X : XX} {i v : Int32} {I : MJ} {g : GG} (hle : ¬ (Int32.ofNat X.1) - (7 : Int32) < i) (hv : rds X i = some v) (hk : ∀ k : Nat, k < 41 → v &&& (63 : Int32) ≠ Int32.ofNat k) : l_law_body X (i, I, g) = some (.inl (i + (7 : Int32), I, g)) := by
  unfold l_law_body
  dsimp only
  rw [if_neg hle, hv, ob_some]
  rw [if_neg (show ¬ v &&& (63 : Int32) = (0 : Int32) from hk 0 (by decide)), if_neg (show ¬ v &&& (63 : Int32) = (1 : Int32) from hk 1 (by decide)), if_neg (show ¬ v &&& (63 : Int32) = (2 : Int32) from hk 2 (by decide)), if_neg (show ¬ v &&& (63 : Int32) = (3 : Int32) from hk 3 (by decide)), if_neg (show ¬ v &&& (63 : Int32) = (4 : Int32) from hk 4 (by decide)), if_neg (show ¬ v &&& (63 : Int32) = (5 : Int32) from hk 5 (by decide)), if_neg (show ¬ v &&& (63 : Int32) = (6 : Int32) from hk 6 (by decide)), if_neg (show ¬ v &&& (63 : Int32) = (7 : Int32) from hk 7 (by decide)), if_neg (show ¬ v &&& (63 : Int32) = (8 : Int32) from hk 8 (by decide)), if_neg (show ¬ v &&& (63 : Int32) = (9 : Int32) from hk 9 (by decide)), if_neg (show ¬ v &&& (63 : Int32) = (10 : Int32) from hk 10 (by decide)), if_neg (show ¬ v &&& (63 : Int32) = (11 : Int32) from hk 11 (by decide)), if_neg (show ¬ v &&& (63 : Int32) = (12 : Int32) from hk 12 (by decide)), if_neg (show ¬ v &&& (63 : Int32) = (13 : Int32) from hk 13 (by decide)), if_neg (show ¬ v &&& (63 : Int32) = (14 : Int32) from hk 14 (by decide)), if_neg (show ¬ v &&& (63 : Int32) = (15 : Int32) from hk 15 (by decide)), if_neg (show ¬ v &&& (63 : Int32) = (16 : Int32) from hk 16 (by decide)), if_neg (show ¬ v &&& (63 : Int32) = (17 : Int32) from hk 17 (by decide)), if_neg (show ¬ v &&& (63 : Int32) = (18 : Int32) from hk 18 (by decide)), if_neg (show ¬ v &&& (63 : Int32) = (19 : Int32) from hk 19 (by decide)), if_neg (show ¬ v &&& (63 : Int32) = (20 : Int32) from hk 20 (by decide)), if_neg (show ¬ v &&& (63 : Int32) = (21 : Int32) from hk 21 (by decide)), if_neg (show ¬ v &&& (63 : Int32) = (22 : Int32) from hk 22 (by decide)), if_neg (show ¬ v &&& (63 : Int32) = (23 : Int32) from hk 23 (by decide)), if_neg (show ¬ v &&& (63 : Int32) = (24 : Int32) from hk 24 (by decide)), if_neg (show ¬ v &&& (63 : Int32) = (25 : Int32) from hk 25 (by decide)), if_neg (show ¬ v &&& (63 : Int32) = (26 : Int32) from hk 26 (by decide)), if_neg (show ¬ v &&& (63 : Int32) = (27 : Int32) from hk 27 (by decide)), if_neg (show ¬ v &&& (63 : Int32) = (28 : Int32) from hk 28 (by decide)), if_neg (show ¬ v &&& (63 : Int32) = (29 : Int32) from hk 29 (by decide)), if_neg (show ¬ v &&& (63 : Int32) = (30 : Int32) from hk 30 (by decide)), if_neg (show ¬ v &&& (63 : Int32) = (31 : Int32) from hk 31 (by decide)), if_neg (show ¬ v &&& (63 : Int32) = (32 : Int32) from hk 32 (by decide)), if_neg (show ¬ v &&& (63 : Int32) = (33 : Int32) from hk 33 (by decide)), if_neg (show ¬ v &&& (63 : Int32) = (34 : Int32) from hk 34 (by decide)), if_neg (show ¬ v &&& (63 : Int32) = (35 : Int32) from hk 35 (by decide)), if_neg (show ¬ v &&& (63 : Int32) = (36 : Int32) from hk 36 (by decide)), if_neg (show ¬ v &&& (63 : Int32) = (37 : Int32) from hk 37 (by decide)), if_neg (show ¬ v &&& (63 : Int32) = (38 : Int32) from hk 38 (by decide)), if_neg (show ¬ v &&& (63 : Int32) = (39 : Int32) from hk 39 (by decide)), if_neg (show ¬ v &&& (63 : Int32) = (40 : Int32) from hk 40 (by decide))]
def ops (rel : MJ → Prop) : Prop := op_feed rel ∧ op_shop rel ∧ op_pattern rel ∧ op_law rel ∧ op_work rel ∧ op_book rel ∧ op_fault rel ∧ op_undo rel ∧ op_told rel ∧ op_bolt rel ∧ op_client rel ∧ op_want rel ∧ op_order rel ∧ op_wears rel ∧ op_sky rel ∧ op_cloth rel ∧ op_can rel ∧ op_ready rel ∧ op_fit rel ∧ op_tries rel ∧ op_best rel ∧ op_bestAt rel ∧ op_clashes rel ∧ op_mend rel ∧ op_pieces rel ∧ op_sewn rel ∧ op_words rel ∧ op_offers rel ∧ op_line rel ∧ op_skies rel ∧ op_which rel ∧ op_look rel ∧ op_tailors rel ∧ op_gets rel ∧ op_ahead rel ∧ op_years rel ∧ op_span rel ∧ op_image rel ∧ op_restore rel ∧ op_status rel ∧ op_count rel
set_option maxRecDepth 100000 in
theorem law_step {rel : MJ → Prop} (ho : ops rel) {X : XX} {n : Nat} (hX : 7 * n + 7 ≤ X.1) (hX2 : X.1 ≤ 3584) {I : MJ} {g : GG} (hr : rel I) : ∃ I2 g2, l_law_body X (Int32.ofNat (7 * n), I, g) = some (.inl (Int32.ofNat (7 * (n + 1)), I2, g2)) ∧ rel I2 ∧ gle g g2 := by
  obtain ⟨o0, o1, o2, o3, o4, o5, o6, o7, o8, o9, o10, o11, o12, o13, o14, o15, o16, o17, o18, o19, o20, o21, o22, o23, o24, o25, o26, o27, o28, o29, o30, o31, o32, o33, o34, o35, o36, o37, o38, o39, o40⟩ := ho
  have hle : ¬ (Int32.ofNat X.1) - (7 : Int32) < Int32.ofNat (7 * n) := by
    rw [show (Int32.ofNat X.1) - (7 : Int32) = Int32.ofNat (X.1 - 7) from i_sub (a := X.1) (b := 7) (by omega), i_lt (by omega) (by omega)]
    omega
  have hv : ∀ j : Nat, j < 7 → rds X (Int32.ofNat (7 * n + j)) = some (X.2 (7 * n + j)) := by
    intro j hj
    unfold rds
    rw [i_in (by omega), i_clamp (by omega), decide_eq_true (show 7 * n + j < X.1 by omega)]
    rfl
  have hv0 := hv 0 (by decide)
  have e7 : Int32.ofNat (7 * n) + (7 : Int32) = Int32.ofNat (7 * (n + 1)) := i_addr (n := 7)
  have q1 : rds X (Int32.ofNat (7 * n) + (1 : Int32)) = some (X.2 (7 * n + 1)) := (congrArg (rds X) (i_addr (n := 1))).trans (hv 1 (by decide))
  have q2 : rds X (Int32.ofNat (7 * n) + (2 : Int32)) = some (X.2 (7 * n + 2)) := (congrArg (rds X) (i_addr (n := 2))).trans (hv 2 (by decide))
  have q3 : rds X (Int32.ofNat (7 * n) + (3 : Int32)) = some (X.2 (7 * n + 3)) := (congrArg (rds X) (i_addr (n := 3))).trans (hv 3 (by decide))
  have q4 : rds X (Int32.ofNat (7 * n) + (4 : Int32)) = some (X.2 (7 * n + 4)) := (congrArg (rds X) (i_addr (n := 4))).trans (hv 4 (by decide))
  have q5 : rds X (Int32.ofNat (7 * n) + (5 : Int32)) = some (X.2 (7 * n + 5)) := (congrArg (rds X) (i_addr (n := 5))).trans (hv 5 (by decide))
  have q6 : rds X (Int32.ofNat (7 * n) + (6 : Int32)) = some (X.2 (7 * n + 6)) := (congrArg (rds X) (i_addr (n := 6))).trans (hv 6 (by decide))
  rw [← e7]
  by_cases h0 : X.2 (7 * n + 0) &&& (63 : Int32) = 0
  · exact lc_feed o0 hle hv0 h0 q1 q2 q3 q4 q5 hr
  by_cases h1 : X.2 (7 * n + 0) &&& (63 : Int32) = 1
  · exact lc_shop o1 hle hv0 h1 q1 hr
  by_cases h2 : X.2 (7 * n + 0) &&& (63 : Int32) = 2
  · exact lc_pattern o2 hle hv0 h2 q1 q2 hr
  by_cases h3 : X.2 (7 * n + 0) &&& (63 : Int32) = 3
  · exact lc_law o3 hle hv0 h3 q1 hr
  by_cases h4 : X.2 (7 * n + 0) &&& (63 : Int32) = 4
  · exact lc_work o4 hle hv0 h4 q1 hr
  by_cases h5 : X.2 (7 * n + 0) &&& (63 : Int32) = 5
  · exact lc_book o5 hle hv0 h5 q1 hr
  by_cases h6 : X.2 (7 * n + 0) &&& (63 : Int32) = 6
  · exact lc_fault o6 hle hv0 h6  hr
  by_cases h7 : X.2 (7 * n + 0) &&& (63 : Int32) = 7
  · exact lc_undo o7 hle hv0 h7  hr
  by_cases h8 : X.2 (7 * n + 0) &&& (63 : Int32) = 8
  · exact lc_told o8 hle hv0 h8 q1 hr
  by_cases h9 : X.2 (7 * n + 0) &&& (63 : Int32) = 9
  · exact lc_bolt o9 hle hv0 h9 q1 q2 hr
  by_cases h10 : X.2 (7 * n + 0) &&& (63 : Int32) = 10
  · exact lc_client o10 hle hv0 h10 q1 q2 hr
  by_cases h11 : X.2 (7 * n + 0) &&& (63 : Int32) = 11
  · exact lc_want o11 hle hv0 h11 q1 q2 hr
  by_cases h12 : X.2 (7 * n + 0) &&& (63 : Int32) = 12
  · exact lc_order o12 hle hv0 h12 q1 q2 hr
  by_cases h13 : X.2 (7 * n + 0) &&& (63 : Int32) = 13
  · exact lc_wears o13 hle hv0 h13 q1 q2 hr
  by_cases h14 : X.2 (7 * n + 0) &&& (63 : Int32) = 14
  · exact lc_sky o14 hle hv0 h14 q1 q2 hr
  by_cases h15 : X.2 (7 * n + 0) &&& (63 : Int32) = 15
  · exact lc_cloth o15 hle hv0 h15 q1 q2 hr
  by_cases h16 : X.2 (7 * n + 0) &&& (63 : Int32) = 16
  · exact lc_can o16 hle hv0 h16 q1 q2 hr
  by_cases h17 : X.2 (7 * n + 0) &&& (63 : Int32) = 17
  · exact lc_ready o17 hle hv0 h17 q1 hr
  by_cases h18 : X.2 (7 * n + 0) &&& (63 : Int32) = 18
  · exact lc_fit o18 hle hv0 h18 q1 hr
  by_cases h19 : X.2 (7 * n + 0) &&& (63 : Int32) = 19
  · exact lc_tries o19 hle hv0 h19 q1 q2 hr
  by_cases h20 : X.2 (7 * n + 0) &&& (63 : Int32) = 20
  · exact lc_best o20 hle hv0 h20 q1 hr
  by_cases h21 : X.2 (7 * n + 0) &&& (63 : Int32) = 21
  · exact lc_bestAt o21 hle hv0 h21 q1 q2 hr
  by_cases h22 : X.2 (7 * n + 0) &&& (63 : Int32) = 22
  · exact lc_clashes o22 hle hv0 h22 q1 hr
  by_cases h23 : X.2 (7 * n + 0) &&& (63 : Int32) = 23
  · exact lc_mend o23 hle hv0 h23 q1 q2 hr
  by_cases h24 : X.2 (7 * n + 0) &&& (63 : Int32) = 24
  · exact lc_pieces o24 hle hv0 h24 q1 hr
  by_cases h25 : X.2 (7 * n + 0) &&& (63 : Int32) = 25
  · exact lc_sewn o25 hle hv0 h25 q1 q2 hr
  by_cases h26 : X.2 (7 * n + 0) &&& (63 : Int32) = 26
  · exact lc_words o26 hle hv0 h26 q1 hr
  by_cases h27 : X.2 (7 * n + 0) &&& (63 : Int32) = 27
  · exact lc_offers o27 hle hv0 h27 q1 q2 hr
  by_cases h28 : X.2 (7 * n + 0) &&& (63 : Int32) = 28
  · exact lc_line o28 hle hv0 h28 q1 hr
  by_cases h29 : X.2 (7 * n + 0) &&& (63 : Int32) = 29
  · exact lc_skies o29 hle hv0 h29 q1 hr
  by_cases h30 : X.2 (7 * n + 0) &&& (63 : Int32) = 30
  · exact lc_which o30 hle hv0 h30  hr
  by_cases h31 : X.2 (7 * n + 0) &&& (63 : Int32) = 31
  · exact lc_look o31 hle hv0 h31 q1 hr
  by_cases h32 : X.2 (7 * n + 0) &&& (63 : Int32) = 32
  · exact lc_tailors o32 hle hv0 h32 q1 hr
  by_cases h33 : X.2 (7 * n + 0) &&& (63 : Int32) = 33
  · exact lc_gets o33 hle hv0 h33 q1 q2 hr
  by_cases h34 : X.2 (7 * n + 0) &&& (63 : Int32) = 34
  · exact lc_ahead o34 hle hv0 h34 q1 q2 q3 hr
  by_cases h35 : X.2 (7 * n + 0) &&& (63 : Int32) = 35
  · exact lc_years o35 hle hv0 h35 q1 q2 q3 q4 hr
  by_cases h36 : X.2 (7 * n + 0) &&& (63 : Int32) = 36
  · exact lc_span o36 hle hv0 h36 q1 q2 q3 q4 q5 q6 hr
  by_cases h37 : X.2 (7 * n + 0) &&& (63 : Int32) = 37
  · exact lc_image o37 hle hv0 h37  hr
  by_cases h38 : X.2 (7 * n + 0) &&& (63 : Int32) = 38
  · exact lc_restore o38 hle hv0 h38  hr
  by_cases h39 : X.2 (7 * n + 0) &&& (63 : Int32) = 39
  · exact lc_status o39 hle hv0 h39 q1 hr
  by_cases h40 : X.2 (7 * n + 0) &&& (63 : Int32) = 40
  · exact lc_count o40 hle hv0 h40 q1 hr
  refine ⟨I, g, lc_default hle hv0 ?_, hr, gle_rf g⟩
  intro k hk
  match k, hk with
  | 0, _ => exact h0
  | 1, _ => exact h1
  | 2, _ => exact h2
  | 3, _ => exact h3
  | 4, _ => exact h4
  | 5, _ => exact h5
  | 6, _ => exact h6
  | 7, _ => exact h7
  | 8, _ => exact h8
  | 9, _ => exact h9
  | 10, _ => exact h10
  | 11, _ => exact h11
  | 12, _ => exact h12
  | 13, _ => exact h13
  | 14, _ => exact h14
  | 15, _ => exact h15
  | 16, _ => exact h16
  | 17, _ => exact h17
  | 18, _ => exact h18
  | 19, _ => exact h19
  | 20, _ => exact h20
  | 21, _ => exact h21
  | 22, _ => exact h22
  | 23, _ => exact h23
  | 24, _ => exact h24
  | 25, _ => exact h25
  | 26, _ => exact h26
  | 27, _ => exact h27
  | 28, _ => exact h28
  | 29, _ => exact h29
  | 30, _ => exact h30
  | 31, _ => exact h31
  | 32, _ => exact h32
  | 33, _ => exact h33
  | 34, _ => exact h34
  | 35, _ => exact h35
  | 36, _ => exact h36
  | 37, _ => exact h37
  | 38, _ => exact h38
  | 39, _ => exact h39
  | 40, _ => exact h40
  | k + 41, h => omega
theorem law_all {rel : MJ → Prop} (ho : ops rel) {X : XX} (hX2 : X.1 ≤ 3584) {I : MJ} {g : GG} (hr : rel I) (hg : g.2.1 = 699 ∧ g.2.2 = 23634) : ∃ I2 g2, f_l_law386 X I g = some ((1 : Int32), I2, g2) ∧ g2.2.1 ≤ 601024 ∧ g2.2.2 ≤ 7293034 := by
  rw [l_law_eq]
  obtain ⟨b, h1, h2⟩ := wh_inv (f := l_law_body X) (fun i s => s.1 = Int32.ofNat (7 * i) ∧ rel s.2.1 ∧ s.2.2.2.1 ≤ 699 + i ∧ s.2.2.2.2 ≤ 23634 + 6 * i) (fun b => b.1 = 1 ∧ b.2.2.2.1 ≤ 601024 ∧ b.2.2.2.2 ≤ 7293034) (X.1 / 7) (by
      rintro i hi ⟨a, I1, g1⟩ ⟨e1, e2, e3, e4⟩
      dsimp only at e1 e2 e3 e4
      subst e1
      obtain ⟨I2, g2, k1, k2, k3, k4⟩ := law_step ho (n := i) (X := X) (g := g1) (by omega) hX2 e2
      exact ⟨_, k1, rfl, k2, by dsimp only; omega, by dsimp only; omega⟩) (by
      rintro ⟨a, I1, g1⟩ ⟨e1, e2, e3, e4⟩
      dsimp only at e1 e2 e3 e4
      subst e1
      refine ⟨((1 : Int32), I1, g1), ?_, rfl, by dsimp only; omega, by dsimp only; omega⟩
      unfold l_law_body
      dsimp only
      refine if_pos ?_
      by_cases h7 : 7 ≤ X.1
      · rw [show (Int32.ofNat X.1) - (7 : Int32) = Int32.ofNat (X.1 - 7) from i_sub (a := X.1) (b := 7) (by omega), i_lt (by omega) (by omega)]
        omega
      · have h8 : X.1 = 0 ∨ X.1 = 1 ∨ X.1 = 2 ∨ X.1 = 3 ∨ X.1 = 4 ∨ X.1 = 5 ∨ X.1 = 6 := by omega
        have h9 : X.1 / 7 = 0 := by omega
        rw [h9]
        rcases h8 with h8 | h8 | h8 | h8 | h8 | h8 | h8 <;> rw [h8] <;> decide) (s := ((0 : Int32), I, g)) ⟨rfl, hr, by dsimp only; omega, by dsimp only; omega⟩
  obtain ⟨v, I2, g2⟩ := b
  obtain ⟨k1, k2, k3⟩ := h2
  dsimp only at k1 k2 k3
  subst k1
  exact ⟨I2, g2, h1, k2, k3⟩
