theorem pm_lens : ((List.range 224).all fun k => (pm_CODE k).length == (pm_mt k).2.2.2.2.length) = true := by decide +kernel
def pm_h7 (d : Nat) (q : pI) : Bool := match q.1, q.2.1 with
  | .invokevirtual _, [] => decide (7 ≤ d)
  | _, _ => true
theorem pm_h7s : ((List.range 224).all fun k => (pm_CODE k).all (pm_h7 (pm_inf k).2.2.2)) = true := by decide +kernel
theorem pm_mw {k : Nat} (h : k < 224) : pm_mwc k = true := by
  rcases Nat.lt_or_ge k 10 with h0 | h0
  · have q := List.all_eq_true.mp pm_mw_0 (k - 0) (List.mem_range.mpr (by omega))
    rwa [show k - 0 + 0 = k by omega] at q
  rcases Nat.lt_or_ge k 20 with h10 | h10
  · have q := List.all_eq_true.mp pm_mw_1 (k - 10) (List.mem_range.mpr (by omega))
    rwa [show k - 10 + 10 = k by omega] at q
  rcases Nat.lt_or_ge k 30 with h20 | h20
  · have q := List.all_eq_true.mp pm_mw_2 (k - 20) (List.mem_range.mpr (by omega))
    rwa [show k - 20 + 20 = k by omega] at q
  rcases Nat.lt_or_ge k 40 with h30 | h30
  · have q := List.all_eq_true.mp pm_mw_3 (k - 30) (List.mem_range.mpr (by omega))
    rwa [show k - 30 + 30 = k by omega] at q
  rcases Nat.lt_or_ge k 50 with h40 | h40
  · have q := List.all_eq_true.mp pm_mw_4 (k - 40) (List.mem_range.mpr (by omega))
    rwa [show k - 40 + 40 = k by omega] at q
  rcases Nat.lt_or_ge k 60 with h50 | h50
  · have q := List.all_eq_true.mp pm_mw_5 (k - 50) (List.mem_range.mpr (by omega))
    rwa [show k - 50 + 50 = k by omega] at q
  rcases Nat.lt_or_ge k 70 with h60 | h60
  · have q := List.all_eq_true.mp pm_mw_6 (k - 60) (List.mem_range.mpr (by omega))
    rwa [show k - 60 + 60 = k by omega] at q
  rcases Nat.lt_or_ge k 80 with h70 | h70
  · have q := List.all_eq_true.mp pm_mw_7 (k - 70) (List.mem_range.mpr (by omega))
    rwa [show k - 70 + 70 = k by omega] at q
  rcases Nat.lt_or_ge k 90 with h80 | h80
  · have q := List.all_eq_true.mp pm_mw_8 (k - 80) (List.mem_range.mpr (by omega))
    rwa [show k - 80 + 80 = k by omega] at q
  rcases Nat.lt_or_ge k 100 with h90 | h90
  · have q := List.all_eq_true.mp pm_mw_9 (k - 90) (List.mem_range.mpr (by omega))
    rwa [show k - 90 + 90 = k by omega] at q
  rcases Nat.lt_or_ge k 110 with h100 | h100
  · have q := List.all_eq_true.mp pm_mw_10 (k - 100) (List.mem_range.mpr (by omega))
    rwa [show k - 100 + 100 = k by omega] at q
  rcases Nat.lt_or_ge k 120 with h110 | h110
  · have q := List.all_eq_true.mp pm_mw_11 (k - 110) (List.mem_range.mpr (by omega))
    rwa [show k - 110 + 110 = k by omega] at q
  rcases Nat.lt_or_ge k 130 with h120 | h120
  · have q := List.all_eq_true.mp pm_mw_12 (k - 120) (List.mem_range.mpr (by omega))
    rwa [show k - 120 + 120 = k by omega] at q
  rcases Nat.lt_or_ge k 140 with h130 | h130
  · have q := List.all_eq_true.mp pm_mw_13 (k - 130) (List.mem_range.mpr (by omega))
    rwa [show k - 130 + 130 = k by omega] at q
  rcases Nat.lt_or_ge k 150 with h140 | h140
  · have q := List.all_eq_true.mp pm_mw_14 (k - 140) (List.mem_range.mpr (by omega))
    rwa [show k - 140 + 140 = k by omega] at q
  rcases Nat.lt_or_ge k 160 with h150 | h150
  · have q := List.all_eq_true.mp pm_mw_15 (k - 150) (List.mem_range.mpr (by omega))
    rwa [show k - 150 + 150 = k by omega] at q
  rcases Nat.lt_or_ge k 170 with h160 | h160
  · have q := List.all_eq_true.mp pm_mw_16 (k - 160) (List.mem_range.mpr (by omega))
    rwa [show k - 160 + 160 = k by omega] at q
  rcases Nat.lt_or_ge k 180 with h170 | h170
  · have q := List.all_eq_true.mp pm_mw_17 (k - 170) (List.mem_range.mpr (by omega))
    rwa [show k - 170 + 170 = k by omega] at q
  rcases Nat.lt_or_ge k 190 with h180 | h180
  · have q := List.all_eq_true.mp pm_mw_18 (k - 180) (List.mem_range.mpr (by omega))
    rwa [show k - 180 + 180 = k by omega] at q
  rcases Nat.lt_or_ge k 200 with h190 | h190
  · have q := List.all_eq_true.mp pm_mw_19 (k - 190) (List.mem_range.mpr (by omega))
    rwa [show k - 190 + 190 = k by omega] at q
  rcases Nat.lt_or_ge k 210 with h200 | h200
  · have q := List.all_eq_true.mp pm_mw_20 (k - 200) (List.mem_range.mpr (by omega))
    rwa [show k - 200 + 200 = k by omega] at q
  rcases Nat.lt_or_ge k 220 with h210 | h210
  · have q := List.all_eq_true.mp pm_mw_21 (k - 210) (List.mem_range.mpr (by omega))
    rwa [show k - 210 + 210 = k by omega] at q
  rcases Nat.lt_or_ge k 224 with h220 | h220
  · have q := List.all_eq_true.mp pm_mw_22 (k - 220) (List.mem_range.mpr (by omega))
    rwa [show k - 220 + 220 = k by omega] at q
  omega
theorem pm_ck {k : Nat} (h : k < 224) : pm_mchk k = true := by
  rcases Nat.lt_or_ge k 10 with h0 | h0
  · have q := List.all_eq_true.mp pm_ck_0 (k - 0) (List.mem_range.mpr (by omega))
    rwa [show k - 0 + 0 = k by omega] at q
  rcases Nat.lt_or_ge k 20 with h10 | h10
  · have q := List.all_eq_true.mp pm_ck_1 (k - 10) (List.mem_range.mpr (by omega))
    rwa [show k - 10 + 10 = k by omega] at q
  rcases Nat.lt_or_ge k 30 with h20 | h20
  · have q := List.all_eq_true.mp pm_ck_2 (k - 20) (List.mem_range.mpr (by omega))
    rwa [show k - 20 + 20 = k by omega] at q
  rcases Nat.lt_or_ge k 40 with h30 | h30
  · have q := List.all_eq_true.mp pm_ck_3 (k - 30) (List.mem_range.mpr (by omega))
    rwa [show k - 30 + 30 = k by omega] at q
  rcases Nat.lt_or_ge k 50 with h40 | h40
  · have q := List.all_eq_true.mp pm_ck_4 (k - 40) (List.mem_range.mpr (by omega))
    rwa [show k - 40 + 40 = k by omega] at q
  rcases Nat.lt_or_ge k 60 with h50 | h50
  · have q := List.all_eq_true.mp pm_ck_5 (k - 50) (List.mem_range.mpr (by omega))
    rwa [show k - 50 + 50 = k by omega] at q
  rcases Nat.lt_or_ge k 70 with h60 | h60
  · have q := List.all_eq_true.mp pm_ck_6 (k - 60) (List.mem_range.mpr (by omega))
    rwa [show k - 60 + 60 = k by omega] at q
  rcases Nat.lt_or_ge k 80 with h70 | h70
  · have q := List.all_eq_true.mp pm_ck_7 (k - 70) (List.mem_range.mpr (by omega))
    rwa [show k - 70 + 70 = k by omega] at q
  rcases Nat.lt_or_ge k 90 with h80 | h80
  · have q := List.all_eq_true.mp pm_ck_8 (k - 80) (List.mem_range.mpr (by omega))
    rwa [show k - 80 + 80 = k by omega] at q
  rcases Nat.lt_or_ge k 100 with h90 | h90
  · have q := List.all_eq_true.mp pm_ck_9 (k - 90) (List.mem_range.mpr (by omega))
    rwa [show k - 90 + 90 = k by omega] at q
  rcases Nat.lt_or_ge k 110 with h100 | h100
  · have q := List.all_eq_true.mp pm_ck_10 (k - 100) (List.mem_range.mpr (by omega))
    rwa [show k - 100 + 100 = k by omega] at q
  rcases Nat.lt_or_ge k 120 with h110 | h110
  · have q := List.all_eq_true.mp pm_ck_11 (k - 110) (List.mem_range.mpr (by omega))
    rwa [show k - 110 + 110 = k by omega] at q
  rcases Nat.lt_or_ge k 130 with h120 | h120
  · have q := List.all_eq_true.mp pm_ck_12 (k - 120) (List.mem_range.mpr (by omega))
    rwa [show k - 120 + 120 = k by omega] at q
  rcases Nat.lt_or_ge k 140 with h130 | h130
  · have q := List.all_eq_true.mp pm_ck_13 (k - 130) (List.mem_range.mpr (by omega))
    rwa [show k - 130 + 130 = k by omega] at q
  rcases Nat.lt_or_ge k 150 with h140 | h140
  · have q := List.all_eq_true.mp pm_ck_14 (k - 140) (List.mem_range.mpr (by omega))
    rwa [show k - 140 + 140 = k by omega] at q
  rcases Nat.lt_or_ge k 160 with h150 | h150
  · have q := List.all_eq_true.mp pm_ck_15 (k - 150) (List.mem_range.mpr (by omega))
    rwa [show k - 150 + 150 = k by omega] at q
  rcases Nat.lt_or_ge k 170 with h160 | h160
  · have q := List.all_eq_true.mp pm_ck_16 (k - 160) (List.mem_range.mpr (by omega))
    rwa [show k - 160 + 160 = k by omega] at q
  rcases Nat.lt_or_ge k 180 with h170 | h170
  · have q := List.all_eq_true.mp pm_ck_17 (k - 170) (List.mem_range.mpr (by omega))
    rwa [show k - 170 + 170 = k by omega] at q
  rcases Nat.lt_or_ge k 190 with h180 | h180
  · have q := List.all_eq_true.mp pm_ck_18 (k - 180) (List.mem_range.mpr (by omega))
    rwa [show k - 180 + 180 = k by omega] at q
  rcases Nat.lt_or_ge k 200 with h190 | h190
  · have q := List.all_eq_true.mp pm_ck_19 (k - 190) (List.mem_range.mpr (by omega))
    rwa [show k - 190 + 190 = k by omega] at q
  rcases Nat.lt_or_ge k 210 with h200 | h200
  · have q := List.all_eq_true.mp pm_ck_20 (k - 200) (List.mem_range.mpr (by omega))
    rwa [show k - 200 + 200 = k by omega] at q
  rcases Nat.lt_or_ge k 220 with h210 | h210
  · have q := List.all_eq_true.mp pm_ck_21 (k - 210) (List.mem_range.mpr (by omega))
    rwa [show k - 210 + 210 = k by omega] at q
  rcases Nat.lt_or_ge k 224 with h220 | h220
  · have q := List.all_eq_true.mp pm_ck_22 (k - 220) (List.mem_range.mpr (by omega))
    rwa [show k - 220 + 220 = k by omega] at q
  omega
