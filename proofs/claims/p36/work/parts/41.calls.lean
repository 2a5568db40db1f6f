/-! what the calls answer -/
theorem x_in {a l h : Int32} (h1 : ¬ a < l) (h2 : a ≤ h) (σ : zSt) : F_Waves_checkWithin a l h σ = some () := by rw [F_Waves_checkWithin, if_neg h1, if_pos h2]
theorem bI_ite (b : Bool) : (if bI b = 0 then some (0 : Int32) else some (1 : Int32)) = some (bI b) := by cases b <;> rfl
section KC
variable {σ : zSt} {A : zAb} {n m T : Nat} {c : Int32}
theorem x_hs (hC : zC σ 0 A n m c T) {h : Nat} (hh : h < n) : F_Waves_checkHouse (nI h) σ = some () := by
  have hn := hC.hn
  rw [F_Waves_checkHouse, if_neg (nI_pos (by omega)), show σ.1 0 3 0 = nI n from hC.1.1.2.2.2.2.1, if_pos (nI_lt hh (by omega))]
theorem x_ws (hC : zC σ 0 A n m c T) {h : Nat} (hh : h < m) : F_Waves_checkNews (nI h) σ = some () := by
  have hm := hC.hm
  rw [F_Waves_checkNews, if_neg (nI_pos (by omega)), show σ.1 0 24 0 = nI m from hC.1.1.2.2.2.2.2.1, if_pos (nI_lt hh (by omega))]
theorem k_c0 (hC : zC σ 0 A n m c T) : F_Law_count (0 : Int32) σ = some (A 0 0 0) := by
  show F_Waves_count (nI 0) σ = _
  rw [F_Waves_count, x_in (by decide) (by decide), Option.bind_some, if_neg (show ¬ nI 0 = (5 : Int32) by decide), if_neg (show ¬ nI 0 = (6 : Int32) by decide), if_neg (show ¬ nI 0 = (7 : Int32) by decide), if_neg (show ¬ nI 0 = (8 : Int32) by decide), if_neg (show ¬ nI 0 = (9 : Int32) by decide), if_neg (show ¬ nI 0 = (10 : Int32) by decide), if_neg (show ¬ nI 0 = (11 : Int32) by decide), if_neg (show ¬ nI 0 = (12 : Int32) by decide), if_neg (show ¬ nI 0 = (13 : Int32) by decide), r_get1 (i := 0) (by decide), Option.bind_some, hC.1.1.2.2.2.2.2.2 0 (by decide)]
theorem k_c1 (hC : zC σ 0 A n m c T) : F_Law_count (1 : Int32) σ = some (A 0 1 0) := by
  show F_Waves_count (nI 1) σ = _
  rw [F_Waves_count, x_in (by decide) (by decide), Option.bind_some, if_neg (show ¬ nI 1 = (5 : Int32) by decide), if_neg (show ¬ nI 1 = (6 : Int32) by decide), if_neg (show ¬ nI 1 = (7 : Int32) by decide), if_neg (show ¬ nI 1 = (8 : Int32) by decide), if_neg (show ¬ nI 1 = (9 : Int32) by decide), if_neg (show ¬ nI 1 = (10 : Int32) by decide), if_neg (show ¬ nI 1 = (11 : Int32) by decide), if_neg (show ¬ nI 1 = (12 : Int32) by decide), if_neg (show ¬ nI 1 = (13 : Int32) by decide), r_get1 (i := 1) (by decide), Option.bind_some, hC.1.1.2.2.2.2.2.2 1 (by decide)]
theorem k_c2 (hC : zC σ 0 A n m c T) : F_Law_count (2 : Int32) σ = some (A 0 2 0) := by
  show F_Waves_count (nI 2) σ = _
  rw [F_Waves_count, x_in (by decide) (by decide), Option.bind_some, if_neg (show ¬ nI 2 = (5 : Int32) by decide), if_neg (show ¬ nI 2 = (6 : Int32) by decide), if_neg (show ¬ nI 2 = (7 : Int32) by decide), if_neg (show ¬ nI 2 = (8 : Int32) by decide), if_neg (show ¬ nI 2 = (9 : Int32) by decide), if_neg (show ¬ nI 2 = (10 : Int32) by decide), if_neg (show ¬ nI 2 = (11 : Int32) by decide), if_neg (show ¬ nI 2 = (12 : Int32) by decide), if_neg (show ¬ nI 2 = (13 : Int32) by decide), r_get1 (i := 2) (by decide), Option.bind_some, hC.1.1.2.2.2.2.2.2 2 (by decide)]
theorem k_c5 (hC : zC σ 0 A n m c T) : F_Law_count (5 : Int32) σ = some (A 0 5 0) := by
  show F_Waves_count (nI 5) σ = _
  rw [F_Waves_count, x_in (by decide) (by decide), Option.bind_some, if_pos (show nI 5 = (5 : Int32) from rfl), hC.1.1.1]
theorem k_c6 (hC : zC σ 0 A n m c T) : F_Law_count (6 : Int32) σ = some (nI n) := by
  show F_Waves_count (nI 6) σ = _
  rw [F_Waves_count, x_in (by decide) (by decide), Option.bind_some, if_neg (show ¬ nI 6 = (5 : Int32) by decide), if_pos (show nI 6 = (6 : Int32) from rfl), hC.1.1.2.2.2.2.1]
theorem k_c7 (hC : zC σ 0 A n m c T) : F_Law_count (7 : Int32) σ = some (nI m) := by
  show F_Waves_count (nI 7) σ = _
  rw [F_Waves_count, x_in (by decide) (by decide), Option.bind_some, if_neg (show ¬ nI 7 = (5 : Int32) by decide), if_neg (show ¬ nI 7 = (6 : Int32) by decide), if_pos (show nI 7 = (7 : Int32) from rfl), hC.1.1.2.2.2.2.2.1]
theorem k_c8 (hC : zC σ 0 A n m c T) : F_Law_count (8 : Int32) σ = some (nI T) := by
  show F_Waves_count (nI 8) σ = _
  rw [F_Waves_count, x_in (by decide) (by decide), Option.bind_some, if_neg (show ¬ nI 8 = (5 : Int32) by decide), if_neg (show ¬ nI 8 = (6 : Int32) by decide), if_neg (show ¬ nI 8 = (7 : Int32) by decide), if_pos (show nI 8 = (8 : Int32) from rfl), hC.1.1.2.1, hC.2.2.1.2.1.2.1]
theorem k_c9 (hC : zC σ 0 A n m c T) : F_Law_count (9 : Int32) σ = some (A 0 9 0) := by
  show F_Waves_count (nI 9) σ = _
  rw [F_Waves_count, x_in (by decide) (by decide), Option.bind_some, if_neg (show ¬ nI 9 = (5 : Int32) by decide), if_neg (show ¬ nI 9 = (6 : Int32) by decide), if_neg (show ¬ nI 9 = (7 : Int32) by decide), if_neg (show ¬ nI 9 = (8 : Int32) by decide), if_pos (show nI 9 = (9 : Int32) from rfl), hC.1.1.2.2.1]
theorem k_c10 (hC : zC σ 0 A n m c T) : F_Law_count (10 : Int32) σ = some (A 0 10 0) := by
  show F_Waves_count (nI 10) σ = _
  rw [F_Waves_count, x_in (by decide) (by decide), Option.bind_some, if_neg (show ¬ nI 10 = (5 : Int32) by decide), if_neg (show ¬ nI 10 = (6 : Int32) by decide), if_neg (show ¬ nI 10 = (7 : Int32) by decide), if_neg (show ¬ nI 10 = (8 : Int32) by decide), if_neg (show ¬ nI 10 = (9 : Int32) by decide), if_pos (show nI 10 = (10 : Int32) from rfl), hC.2.1.1]
theorem k_c13 (hC : zC σ 0 A n m c T) : F_Law_count (13 : Int32) σ = some (zs (fun h => zs (fun w => A 7 h w + A 10 h w) m) n) := by
  show F_Waves_count (nI 13) σ = _
  rw [F_Waves_count, x_in (by decide) (by decide), Option.bind_some, if_neg (show ¬ nI 13 = (5 : Int32) by decide), if_neg (show ¬ nI 13 = (6 : Int32) by decide), if_neg (show ¬ nI 13 = (7 : Int32) by decide), if_neg (show ¬ nI 13 = (8 : Int32) by decide), if_neg (show ¬ nI 13 = (9 : Int32) by decide), if_neg (show ¬ nI 13 = (10 : Int32) by decide), if_neg (show ¬ nI 13 = (11 : Int32) by decide), if_neg (show ¬ nI 13 = (12 : Int32) by decide), if_pos (show nI 13 = (13 : Int32) from rfl), c_total43 hC.1 hC.2.2.1, Option.bind_some, c_total48 hC.1 hC.2.2.1, Option.bind_some, aTotals hC.2.2.1]
theorem k_h3 (hC : zC σ 0 A n m c T) {h : Nat} (hh : h < n) : F_Law_house (nI h) (3 : Int32) σ = some (A 1 h 3) := by
  have hn := hC.hn
  show F_Waves_house (nI h) (nI 3) σ = _
  rw [F_Waves_house, x_hs hC hh, Option.bind_some, x_in (by decide) (by decide), Option.bind_some, if_neg (show ¬ nI 3 = (0 : Int32) by decide), if_neg (show ¬ nI 3 = (1 : Int32) by decide), if_neg (show ¬ nI 3 = (2 : Int32) by decide), if_pos (show nI 3 = (3 : Int32) from rfl), r_get10 (by omega), Option.bind_some, (hC.1.2.1 h hh).2.2.2.1]
theorem k_h7 (hC : zC σ 0 A n m c T) {h : Nat} (hh : h < n) : F_Law_house (nI h) (7 : Int32) σ = some (bI (aQuiet A h (aT A))) := by
  have hn := hC.hn
  show F_Waves_house (nI h) (nI 7) σ = _
  rw [F_Waves_house, x_hs hC hh, Option.bind_some, x_in (by decide) (by decide), Option.bind_some, if_neg (show ¬ nI 7 = (0 : Int32) by decide), if_neg (show ¬ nI 7 = (1 : Int32) by decide), if_neg (show ¬ nI 7 = (2 : Int32) by decide), if_neg (show ¬ nI 7 = (3 : Int32) by decide), if_neg (show ¬ nI 7 = (4 : Int32) by decide), if_neg (show ¬ nI 7 = (5 : Int32) by decide), if_neg (show ¬ nI 7 = (6 : Int32) by decide), if_pos (show nI 7 = (7 : Int32) from rfl), c_minuteOfDay hC.1 hC.2.2.1, Option.bind_some, c_isQuietAt hC.1 hC.2.2.1 hh, Option.bind_some, bI_ite]
theorem k_h10 (hC : zC σ 0 A n m c T) {h : Nat} (hh : h < n) : F_Law_house (nI h) (10 : Int32) σ = some (zm (fun w => aKn A h w 0) m) := by
  have hn := hC.hn
  show F_Waves_house (nI h) (nI 10) σ = _
  rw [F_Waves_house, x_hs hC hh, Option.bind_some, x_in (by decide) (by decide), Option.bind_some, if_neg (show ¬ nI 10 = (0 : Int32) by decide), if_neg (show ¬ nI 10 = (1 : Int32) by decide), if_neg (show ¬ nI 10 = (2 : Int32) by decide), if_neg (show ¬ nI 10 = (3 : Int32) by decide), if_neg (show ¬ nI 10 = (4 : Int32) by decide), if_neg (show ¬ nI 10 = (5 : Int32) by decide), if_neg (show ¬ nI 10 = (6 : Int32) by decide), if_neg (show ¬ nI 10 = (7 : Int32) by decide), if_neg (show ¬ nI 10 = (8 : Int32) by decide), if_neg (show ¬ nI 10 = (9 : Int32) by decide), if_pos (show nI 10 = (10 : Int32) from rfl), c_newsKnownAt hC.1 hC.2.2.1 hh, Option.bind_some]
theorem k_h11 (hC : zC σ 0 A n m c T) {h : Nat} (hh : h < n) : F_Law_house (nI h) (11 : Int32) σ = some (zm (fun w => aKn A h w 1) m) := by
  have hn := hC.hn
  show F_Waves_house (nI h) (nI 11) σ = _
  rw [F_Waves_house, x_hs hC hh, Option.bind_some, x_in (by decide) (by decide), Option.bind_some, if_neg (show ¬ nI 11 = (0 : Int32) by decide), if_neg (show ¬ nI 11 = (1 : Int32) by decide), if_neg (show ¬ nI 11 = (2 : Int32) by decide), if_neg (show ¬ nI 11 = (3 : Int32) by decide), if_neg (show ¬ nI 11 = (4 : Int32) by decide), if_neg (show ¬ nI 11 = (5 : Int32) by decide), if_neg (show ¬ nI 11 = (6 : Int32) by decide), if_neg (show ¬ nI 11 = (7 : Int32) by decide), if_neg (show ¬ nI 11 = (8 : Int32) by decide), if_neg (show ¬ nI 11 = (9 : Int32) by decide), if_neg (show ¬ nI 11 = (10 : Int32) by decide), if_pos (show nI 11 = (11 : Int32) from rfl), c_correctionsKnownAt hC.1 hC.2.2.1 hh, Option.bind_some]
theorem k_h13 (hC : zC σ 0 A n m c T) {h : Nat} (hh : h < n) : F_Law_house (nI h) (13 : Int32) σ = some (nI (aNq A m h + aCq A m h)) := by
  have hn := hC.hn
  show F_Waves_house (nI h) (nI 13) σ = _
  rw [F_Waves_house, x_hs hC hh, Option.bind_some, x_in (by decide) (by decide), Option.bind_some, if_neg (show ¬ nI 13 = (0 : Int32) by decide), if_neg (show ¬ nI 13 = (1 : Int32) by decide), if_neg (show ¬ nI 13 = (2 : Int32) by decide), if_neg (show ¬ nI 13 = (3 : Int32) by decide), if_neg (show ¬ nI 13 = (4 : Int32) by decide), if_neg (show ¬ nI 13 = (5 : Int32) by decide), if_neg (show ¬ nI 13 = (6 : Int32) by decide), if_neg (show ¬ nI 13 = (7 : Int32) by decide), if_neg (show ¬ nI 13 = (8 : Int32) by decide), if_neg (show ¬ nI 13 = (9 : Int32) by decide), if_neg (show ¬ nI 13 = (10 : Int32) by decide), if_neg (show ¬ nI 13 = (11 : Int32) by decide), if_neg (show ¬ nI 13 = (12 : Int32) by decide), if_pos (show nI 13 = (13 : Int32) from rfl), x_size43 hC hh, Option.bind_some, x_size48 hC hh, Option.bind_some, nI_add]
theorem k_h14 (hC : zC σ 0 A n m c T) {h : Nat} (hh : h < n) : F_Law_house (nI h) (14 : Int32) σ = some (aNear A n h) := by
  have hn := hC.hn
  show F_Waves_house (nI h) (nI 14) σ = _
  rw [F_Waves_house, x_hs hC hh, Option.bind_some, x_in (by decide) (by decide), Option.bind_some, if_neg (show ¬ nI 14 = (0 : Int32) by decide), if_neg (show ¬ nI 14 = (1 : Int32) by decide), if_neg (show ¬ nI 14 = (2 : Int32) by decide), if_neg (show ¬ nI 14 = (3 : Int32) by decide), if_neg (show ¬ nI 14 = (4 : Int32) by decide), if_neg (show ¬ nI 14 = (5 : Int32) by decide), if_neg (show ¬ nI 14 = (6 : Int32) by decide), if_neg (show ¬ nI 14 = (7 : Int32) by decide), if_neg (show ¬ nI 14 = (8 : Int32) by decide), if_neg (show ¬ nI 14 = (9 : Int32) by decide), if_neg (show ¬ nI 14 = (10 : Int32) by decide), if_neg (show ¬ nI 14 = (11 : Int32) by decide), if_neg (show ¬ nI 14 = (12 : Int32) by decide), if_neg (show ¬ nI 14 = (13 : Int32) by decide), r_get22 (by omega), Option.bind_some, (hC.1.2.1 h hh).2.2.2.2.2.2.2.2.2]
theorem k_w0 (hC : zC σ 0 A n m c T) {w : Nat} (hw : w < m) : F_Law_news (nI w) (0 : Int32) σ = some (A 2 w 0) := by
  have hm := hC.hm
  show F_Waves_news (nI w) (nI 0) σ = _
  rw [F_Waves_news, x_ws hC hw, Option.bind_some, x_in (by decide) (by decide), Option.bind_some, if_pos (show nI 0 = (0 : Int32) from rfl), r_get25 (by omega), Option.bind_some, (hC.1.2.2.1 w hw).1]
theorem k_w2 (hC : zC σ 0 A n m c T) {w : Nat} (hw : w < m) : F_Law_news (nI w) (2 : Int32) σ = some (A 2 w 2) := by
  have hm := hC.hm
  show F_Waves_news (nI w) (nI 2) σ = _
  rw [F_Waves_news, x_ws hC hw, Option.bind_some, x_in (by decide) (by decide), Option.bind_some, if_neg (show ¬ nI 2 = (0 : Int32) by decide), if_neg (show ¬ nI 2 = (1 : Int32) by decide), if_pos (show nI 2 = (2 : Int32) from rfl), r_get29 (by omega), Option.bind_some, (hC.1.2.2.1 w hw).2.2.1]
theorem k_w3 (hC : zC σ 0 A n m c T) {w : Nat} (hw : w < m) : F_Law_news (nI w) (3 : Int32) σ = some (A 2 w 3) := by
  have hm := hC.hm
  show F_Waves_news (nI w) (nI 3) σ = _
  rw [F_Waves_news, x_ws hC hw, Option.bind_some, x_in (by decide) (by decide), Option.bind_some, if_neg (show ¬ nI 3 = (0 : Int32) by decide), if_neg (show ¬ nI 3 = (1 : Int32) by decide), if_neg (show ¬ nI 3 = (2 : Int32) by decide), if_pos (show nI 3 = (3 : Int32) from rfl), r_get31 (by omega), Option.bind_some, (hC.1.2.2.1 w hw).2.2.2.1]
theorem k_w4 (hC : zC σ 0 A n m c T) {w : Nat} (hw : w < m) : F_Law_news (nI w) (4 : Int32) σ = some (A 2 w 4) := by
  have hm := hC.hm
  show F_Waves_news (nI w) (nI 4) σ = _
  rw [F_Waves_news, x_ws hC hw, Option.bind_some, x_in (by decide) (by decide), Option.bind_some, if_neg (show ¬ nI 4 = (0 : Int32) by decide), if_neg (show ¬ nI 4 = (1 : Int32) by decide), if_neg (show ¬ nI 4 = (2 : Int32) by decide), if_neg (show ¬ nI 4 = (3 : Int32) by decide), if_pos (show nI 4 = (4 : Int32) from rfl), r_get33 (by omega), Option.bind_some, (hC.1.2.2.1 w hw).2.2.2.2.1]
theorem k_w5 (hC : zC σ 0 A n m c T) {w : Nat} (hw : w < m) : F_Law_news (nI w) (5 : Int32) σ = some (A 2 w 5) := by
  have hm := hC.hm
  show F_Waves_news (nI w) (nI 5) σ = _
  rw [F_Waves_news, x_ws hC hw, Option.bind_some, x_in (by decide) (by decide), Option.bind_some, if_neg (show ¬ nI 5 = (0 : Int32) by decide), if_neg (show ¬ nI 5 = (1 : Int32) by decide), if_neg (show ¬ nI 5 = (2 : Int32) by decide), if_neg (show ¬ nI 5 = (3 : Int32) by decide), if_neg (show ¬ nI 5 = (4 : Int32) by decide), if_pos (show nI 5 = (5 : Int32) from rfl), r_get35 (by omega), Option.bind_some, (hC.1.2.2.1 w hw).2.2.2.2.2.1]
theorem k_w6 (hC : zC σ 0 A n m c T) {w : Nat} (hw : w < m) : F_Law_news (nI w) (6 : Int32) σ = some (zm (fun h => decide (A 3 h w = 1)) n) := by
  have hm := hC.hm
  show F_Waves_news (nI w) (nI 6) σ = _
  rw [F_Waves_news, x_ws hC hw, Option.bind_some, x_in (by decide) (by decide), Option.bind_some, if_neg (show ¬ nI 6 = (0 : Int32) by decide), if_neg (show ¬ nI 6 = (1 : Int32) by decide), if_neg (show ¬ nI 6 = (2 : Int32) by decide), if_neg (show ¬ nI 6 = (3 : Int32) by decide), if_neg (show ¬ nI 6 = (4 : Int32) by decide), if_neg (show ¬ nI 6 = (5 : Int32) by decide), if_pos (show nI 6 = (6 : Int32) from rfl), r_get37 (by omega), Option.bind_some, (hC.1.2.2.1 w hw).2.2.2.2.2.2.1]
theorem k_w7 (hC : zC σ 0 A n m c T) {w : Nat} (hw : w < m) : F_Law_news (nI w) (7 : Int32) σ = some (zm (fun h => decide (A 4 h w = 1)) n) := by
  have hm := hC.hm
  show F_Waves_news (nI w) (nI 7) σ = _
  rw [F_Waves_news, x_ws hC hw, Option.bind_some, x_in (by decide) (by decide), Option.bind_some, if_neg (show ¬ nI 7 = (0 : Int32) by decide), if_neg (show ¬ nI 7 = (1 : Int32) by decide), if_neg (show ¬ nI 7 = (2 : Int32) by decide), if_neg (show ¬ nI 7 = (3 : Int32) by decide), if_neg (show ¬ nI 7 = (4 : Int32) by decide), if_neg (show ¬ nI 7 = (5 : Int32) by decide), if_neg (show ¬ nI 7 = (6 : Int32) by decide), if_pos (show nI 7 = (7 : Int32) from rfl), r_get39 (by omega), Option.bind_some, (hC.1.2.2.1 w hw).2.2.2.2.2.2.2.1]
theorem k_w8 (hC : zC σ 0 A n m c T) {w : Nat} (hw : w < m) : F_Law_news (nI w) (8 : Int32) σ = some (zm (fun h => aKn A h w 2) n) := by
  have hm := hC.hm
  show F_Waves_news (nI w) (nI 8) σ = _
  rw [F_Waves_news, x_ws hC hw, Option.bind_some, x_in (by decide) (by decide), Option.bind_some, if_neg (show ¬ nI 8 = (0 : Int32) by decide), if_neg (show ¬ nI 8 = (1 : Int32) by decide), if_neg (show ¬ nI 8 = (2 : Int32) by decide), if_neg (show ¬ nI 8 = (3 : Int32) by decide), if_neg (show ¬ nI 8 = (4 : Int32) by decide), if_neg (show ¬ nI 8 = (5 : Int32) by decide), if_neg (show ¬ nI 8 = (6 : Int32) by decide), if_neg (show ¬ nI 8 = (7 : Int32) by decide), if_pos (show nI 8 = (8 : Int32) from rfl), c_uncorrectedHouses hC.1 hC.2.2.1 hw, Option.bind_some]
theorem k_w9 (hC : zC σ 0 A n m c T) {w : Nat} (hw : w < m) : F_Law_news (nI w) (9 : Int32) σ = some (zmx (fun h => A 6 h w) n) := by
  have hm := hC.hm
  show F_Waves_news (nI w) (nI 9) σ = _
  rw [F_Waves_news, x_ws hC hw, Option.bind_some, x_in (by decide) (by decide), Option.bind_some, if_neg (show ¬ nI 9 = (0 : Int32) by decide), if_neg (show ¬ nI 9 = (1 : Int32) by decide), if_neg (show ¬ nI 9 = (2 : Int32) by decide), if_neg (show ¬ nI 9 = (3 : Int32) by decide), if_neg (show ¬ nI 9 = (4 : Int32) by decide), if_neg (show ¬ nI 9 = (5 : Int32) by decide), if_neg (show ¬ nI 9 = (6 : Int32) by decide), if_neg (show ¬ nI 9 = (7 : Int32) by decide), if_neg (show ¬ nI 9 = (8 : Int32) by decide), r_get41 (by omega), Option.bind_some, (hC.1.2.2.1 w hw).2.2.2.2.2.2.2.2]
theorem k_src (hC : zC σ 0 A n m c T) {h w : Nat} (hh : h < n) (hw : w < m) : F_Law_source (nI h) (nI w) σ = some (A 5 h w) := by
  have hn := hC.hn
  have hm := hC.hm
  have g1 := (hC.1.2.2.2.2.2 h w (by omega) hw).1
  rw [if_pos hh] at g1
  rw [F_Law_source, F_Waves_source, x_hs hC hh, Option.bind_some, x_ws hC hw, Option.bind_some, r_cell, Option.bind_some, r_get55 (show 20 * h + w < 240 by omega), Option.bind_some, g1]
theorem k_owes (hC : zC σ 0 A n m c T) {h w : Nat} (hh : h < n) (hw : w < m) : F_Law_owes (nI h) (nI w) σ = some (aOws A n h w) := by
  rw [F_Law_owes, F_Waves_owes, x_hs hC hh, Option.bind_some, x_ws hC hw, Option.bind_some, c_owedBy hC.1 hC.2.2.1 hh hw, Option.bind_some]
theorem k_spk (hC : zC σ 0 A n m c T) {s0 k : Nat} (e0 : A 0 10 0 = nI s0) (h0 : 0 < s0) (h30 : s0 < 2 ^ 30) (hk : k < 6) : F_Law_spoken (0 : Int32) (nI k) σ = some (A 12 0 k) := by
  have e59 : σ.1 0 59 0 = nI s0 := hC.2.1.1.trans e0
  have g := hC.2.1.2 s0 0 k e0 (by omega) (by decide) h0 hk
  have fact : F_Journal_fact 0 (nI 0) (nI k) σ = some (A 12 0 k) := by
    rw [F_Journal_fact, if_neg (show ¬ (30 : Int32) ≤ nI 0 by decide), e59, if_pos (nI_lt h0 (by omega)), show (nI s0 - 1 : Int32) = nI (s0 - 1) from pk_sub (b := 1) (by omega), pk_sub (show 0 ≤ s0 - 1 by omega), show (30 : Int32) = nI 30 from rfl, pk_rem (by omega) (by decide) (by decide), show (6 : Int32) = nI 6 from rfl, pk_mul, nI_add, r_get60 (by omega), Option.bind_some, g]
  show F_Waves_spoken (nI 0) (nI k) σ = _
  rw [F_Waves_spoken, if_pos (show (0 : Int32) ≤ nI 0 by decide), x_in (nI_pos (by omega)) (show nI k ≤ (5 : Int32) from nI_le (b := 5) (by omega) (by decide)), Option.bind_some, fact, Option.bind_some]
/-! acts -/
theorem k_charge (hC : zC σ 0 A n m c T) {h x : Nat} (hh : h < n) (hx : x ≤ 999) : zOk (F_Law_charge (nI h) (nI x) σ) (fun q => (∃ b, b ≤ 999 ∧ q.1 = nI b ∧ zC q.2 0 (aup A 1 h 3 (nI b)) n m c T) ∧ zfV 0 σ q.2) := by
  have hn := hC.hn
  obtain ⟨-, -, -, ⟨b0, hb0, eb0⟩, -⟩ := hC.2.2.1.2.2.1 h hh
  have hv : ∃ y, y ≤ 999 ∧ (if (0 : Int32) < (if A 1 h 3 + nI x < 999 then A 1 h 3 + nI x else 999) then (if A 1 h 3 + nI x < 999 then A 1 h 3 + nI x else 999) else 0) = nI y := by
    rw [eb0, nI_add]
    by_cases q1 : nI (b0 + x) < 999
    · rw [if_pos q1]
      have := (nI_ltI (b := 999) (by omega) (by decide)).mp q1
      split
      · exact ⟨b0 + x, by omega, rfl⟩
      · exact ⟨0, by omega, rfl⟩
    · rw [if_neg q1, if_pos (by decide)]; exact ⟨999, by decide, rfl⟩
  obtain ⟨y, hy, ey⟩ := hv
  rw [F_Law_charge, F_Waves_charge, x_hs hC hh, Option.bind_some, x_in (fun z => by
      rw [Int32.lt_iff_toInt_lt, nI_toInt (by omega)] at z
      have : (-999 : Int32).toInt = -999 := by decide
      omega) (show nI x ≤ (999 : Int32) from nI_le (b := 999) hx (by decide)), Option.bind_some, c_addBat hC.1 hC.2.2.1 hh, ey, Option.bind_some, r_get10 (show h < 12 by omega), Option.bind_some]
  exact ⟨_, rfl, ⟨y, hy, by show (zst σ 0 11 h (nI y)).1 0 11 h = nI y; rw [zst_at, if_pos ⟨rfl, rfl, rfl⟩], zC_bat hC h hy⟩, zfV.st 0 σ 11 h (nI y)⟩
theorem k_set (hC : zC σ 0 A n m c T) {k x : Nat} (hk : k < 5) (h1 : ¬ nI x < (zfv 1).getD k 0) (h2 : nI x ≤ (zfv 2).getD k 0) (h31 : x < 2 ^ 31) : F_Law_set (nI k) (nI x) σ = some (A 0 k 0, zst σ 0 2 k (nI x)) ∧ zC (zst σ 0 2 k (nI x)) 0 (aup A 0 k 0 (nI x)) n m c T := by
  refine ⟨?_, zC_set hC hk h2 h31⟩
  rw [F_Law_set, F_Waves_set, x_in (nI_pos (by omega)) (show nI k ≤ (4 : Int32) from nI_le (b := 4) (by omega) (by decide)), Option.bind_some, x_elem 1 hk, Option.bind_some, x_elem 2 hk, Option.bind_some, x_in h1 h2, Option.bind_some, r_get1 hk, Option.bind_some, r_put1 hk, Option.bind_some, hC.1.1.2.2.2.2.2.2 k hk]
theorem k_seed (hC : zC σ 0 A n m c T) {x : Nat} (hx : x < 1000003) : F_Law_seed (nI x) σ = some ((0 : Int32), zst σ 0 0 2 (nI x)) ∧ zC (zst σ 0 0 2 (nI x)) 0 (aup A 0 9 0 (nI x)) n m c T := by
  refine ⟨?_, zC_lot hC hx⟩
  rw [F_Law_seed, F_Waves_seed, x_in (nI_pos (by omega)) (show nI x ≤ (1000002 : Int32) from nI_le (b := 1000002) (by omega) (by decide)), Option.bind_some, Option.bind_some]
theorem k_quiet (hC : zC σ 0 A n m c T) {h x y : Nat} (hh : h < n) (hd : A 0 5 0 = nI 48) (hx : x < 48) (hy : y < 48) : F_Law_setQuiet (nI h) (nI x) (nI y) σ = some ((0 : Int32), zst (zst σ 0 15 h (nI x)) 0 17 h (nI y)) ∧ zC (zst (zst σ 0 15 h (nI x)) 0 17 h (nI y)) 0 (aup (aup A 1 h 5 (nI x)) 1 h 6 (nI y)) n m c T := by
  refine ⟨?_, zC_quiet hC h _ _⟩
  have hn := hC.hn
  have ex : σ.1 0 0 0 - 1 = nI 47 := by rw [hC.1.1.1, hd]; rfl
  have nm : ∀ z, z < 48 → ¬ nI z < (-1 : Int32) := fun z hz y => by
    rw [Int32.lt_iff_toInt_lt, nI_toInt (by omega)] at y
    have : (-1 : Int32).toInt = -1 := by decide
    omega
  have ne : ∀ z, z < 48 → ¬ nI z = (-1 : Int32) := fun z hz y => by
    have := congrArg Int32.toInt y
    rw [nI_toInt (by omega)] at this
    have : (-1 : Int32).toInt = -1 := by decide
    omega
  rw [F_Law_setQuiet, F_Waves_setQuiet, x_hs hC hh, Option.bind_some, ex, x_in (nm x hx) (nI_le (by omega) (by omega)), Option.bind_some, x_in (nm y hy) (nI_le (by omega) (by omega)), Option.bind_some, if_neg (ne x hx), if_neg (ne y hy), B_Waves_setQuiet_53, if_pos rfl, r_put14 (by omega), Option.bind_some, r_put16 (by omega), Option.bind_some, Option.bind_some]
theorem k_addHouse (hC : zC σ 0 A n m c T) (hn12 : n < 12) {x y r b s : Nat} (hx : x ≤ 99) (hy : y ≤ 99) (hr : r ≤ 150) (hb : b ≤ 999) (hs : 1 ≤ s ∧ s ≤ 9) : zOk (F_Law_addHouse (nI x) (nI y) (nI r) (nI b) (nI s) σ) (fun q => q.1 = nI n ∧ zC q.2 0 (aHouse A n (nI x) (nI y) (nI r) (nI b) (nI s)) (n + 1) m c T ∧ zfV 0 σ q.2) := by
  rw [F_Law_addHouse, F_Waves_addHouse, x_in (nI_pos (by omega)) (show nI x ≤ (99 : Int32) from nI_le (b := 99) hx (by decide)), Option.bind_some, x_in (nI_pos (by omega)) (show nI y ≤ (99 : Int32) from nI_le (b := 99) hy (by decide)), Option.bind_some, x_in (nI_pos (by omega)) (show nI r ≤ (150 : Int32) from nI_le (b := 150) hr (by decide)), Option.bind_some, x_in (nI_pos (by omega)) (show nI b ≤ (999 : Int32) from nI_le (b := 999) hb (by decide)), Option.bind_some, x_in (show ¬ nI s < (1 : Int32) from nI_nlt (b := 1) hs.1 (by omega)) (show nI s ≤ (9 : Int32) from nI_le (b := 9) hs.2 (by decide)), Option.bind_some, x_full σ hC.1.1.2.2.2.2.1 hC.hn, if_pos hn12, Option.bind_some, if_pos rfl]
  exact zOk.bd2 (c_addHouse hC hn12 hx hy hr hb hs) (fun r1 s1 h => ⟨_, rfl, h⟩)
theorem k_tell (hC : zC σ 0 A n m c T) (hm : m < 20) {h b : Nat} (hh : h < n) (hb : b < 100) : zOk (F_Law_tell (nI h) (nI b) σ) (fun q => q.1 = nI m ∧ zC q.2 0 (aTell A m h (nI b)) n (m + 1) c T ∧ zfV 0 σ q.2) := by
  rw [F_Law_tell, F_Waves_tell, x_hs hC hh, Option.bind_some, x_in (nI_pos (by omega)) (show nI b ≤ (99 : Int32) from nI_le (b := 99) (by omega) (by decide)), Option.bind_some, x_fullw σ hC.1.1.2.2.2.2.2.1 hC.hm, if_pos hm, Option.bind_some, if_pos rfl]
  exact zOk.bd2 (c_addNews hC hm hh (nI b)) (fun r1 s1 h => ⟨_, rfl, h⟩)
theorem k_tell20 (hC : zC σ 0 A n m c T) (hm : ¬ m < 20) {h b : Nat} (hh : h < n) (hb : b < 100) : F_Law_tell (nI h) (nI b) σ = some (-2, σ) := by
  rw [F_Law_tell, F_Waves_tell, x_hs hC hh, Option.bind_some, x_in (nI_pos (by omega)) (show nI b ≤ (99 : Int32) from nI_le (b := 99) (by omega) (by decide)), Option.bind_some, x_fullw σ hC.1.1.2.2.2.2.2.1 hC.hm, if_neg hm, Option.bind_some, if_neg (by decide)]
theorem k_cor (hC : zC σ 0 A n m c T) {h w b : Nat} (hh : h < n) (hw : w < m) (hb : b < 100) :
    (¬ A 3 h w = 1 → F_Law_correct (nI h) (nI w) (nI b) σ = some (-3, σ)) ∧
    (A 3 h w = 1 → ¬ A 2 w 4 = -1 → F_Law_correct (nI h) (nI w) (nI b) σ = some (-4, σ)) ∧
    (A 3 h w = 1 → A 2 w 4 = -1 → zOk (F_Law_correct (nI h) (nI w) (nI b) σ) (fun q => zOk (F_Integer_bitCount (aOws (aLearn (aCo A h w (nI b)) n h w) n h w)) (fun r => q.1 = r) ∧ zC q.2 0 (aLearn (aCo A h w (nI b)) n h w) n m c T ∧ zfV 0 σ q.2)) := by
  have hn := hC.hn
  have hm := hC.hm
  have e : F_Law_correct (nI h) (nI w) (nI b) σ = (if bI (decide (A 3 h w = 1)) = 0 then some ((-3 : Int32), σ) else (if bI (aCor A w) = 0 then ((F_Village_addCorrection 0 (nI h) (nI w) (nI b) σ).bind fun σ11 => (F_Village_owedBy 0 (nI h) (nI w) σ11).bind fun r13 => (F_Integer_bitCount r13).bind fun r15 => some (r15, σ11)) else some ((-4 : Int32), σ))) := by
    rw [F_Law_correct, F_Waves_correct, x_hs hC hh, Option.bind_some, x_ws hC hw, Option.bind_some, x_in (nI_pos (by omega)) (show nI b ≤ (99 : Int32) from nI_le (b := 99) (by omega) (by decide)), Option.bind_some, r_get37 (by omega), Option.bind_some, (hC.1.2.2.1 w hw).2.2.2.2.2.2.1, z_contains (by omega) hh, Option.bind_some, c_isCorrected hC.1 hC.2.2.1 hw, Option.bind_some]
    rfl
  rw [e]
  refine ⟨fun q => ?_, fun q1 q2 => ?_, fun q1 q2 => ?_⟩
  · rw [if_pos ((bI_0 _).mpr (decide_eq_false q))]
  · rw [if_neg (bI_t (decide_eq_true q1)), if_neg (bI_t (by unfold aCor; rw [decide_eq_false q2]; rfl))]
  · rw [if_neg (bI_t (decide_eq_true q1)), if_pos ((bI_0 _).mpr (by unfold aCor; rw [decide_eq_true q2]; rfl))]
    refine zOk.bind (c_addCorr hC hh hw q2 (nI b)) (fun s1 ⟨h1, h2⟩ => ?_)
    rw [c_owedBy h1.1 h1.2.2.1 hh hw, Option.bind_some]
    obtain ⟨r, er⟩ : ∃ r, F_Integer_bitCount (aOws (aLearn (aCo A h w (nI b)) n h w) n h w) = some r := ⟨_, z_bitCount _ (by omega)⟩
    rw [er, Option.bind_some]
    exact ⟨_, rfl, ⟨r, rfl, rfl⟩, h1, h2⟩
theorem k_run1 (hC : zC σ 0 A n m c T) (hT : T + 1 < 2 ^ 28) : zOk (F_Law_run (1 : Int32) σ) (fun q => q.1 = aMin A n m 0 10 0 - A 0 10 0 ∧ zC q.2 0 (aMin A n m) n m c (T + 1) ∧ zfV 0 σ q.2) := by
  rw [F_Law_run, F_Waves_run, x_in (by decide) (by decide), Option.bind_some]
  refine zOk.bind (c_pass (k := 1) hC hT (by decide)) (fun s1 ⟨h1, h2⟩ => ?_)
  exact ⟨_, rfl, by show s1.1 0 59 0 - σ.1 0 59 0 = _; rw [h1.2.1.1, hC.2.1.1]; rfl, h1, h2⟩
theorem k_wishes (hC : zC σ 0 A n m c T) : zOk (F_Waves_wishes σ) (fun q => q.1 = zm (aWish (aBegin A n) n m) n ∧ zfV 1 σ q.2) := by
  rw [F_Waves_wishes]
  exact zOk.bd2 (x_wid hC) (fun r s h => ⟨_, rfl, h.1, h.2.2⟩)
theorem k_next (hC : zC σ 0 A n m c T) : zOk (F_Waves_next σ) (fun q => q.1 = aSpe (aBegin A n) n m ∧ zfV 1 σ q.2) := by
  have hI := aInv_begin hC.2.2.1
  rw [F_Waves_next]
  refine zOk.bd2 (x_wid hC) (fun r s ⟨h1, h2, h3⟩ => ?_)
  have h1 : r = zm (aWish (aBegin A n) n m) n := h1
  have h2 : zVr s 1 (aBegin A n) n m c := h2
  have h3 : zfV 1 σ s := h3
  rw [h1]
  unfold aSpe
  by_cases q : zm (aWish (aBegin A n) n m) n = 0
  · rw [if_pos q, if_pos q]; exact ⟨_, rfl, rfl, h3⟩
  · rw [if_neg q, if_neg q]
    exact zOk.bd2 (c_drawnOf h2 hI q) (fun r2 s2 ⟨g1, g2, g3⟩ => ⟨_, rfl, g1, by have g3 : s2 = zst s 1 0 2 (nI (aX (aBegin A n))) := g3; rw [g3]; exact h3.tr (zfV.st 1 s 0 2 _)⟩)
end KC
