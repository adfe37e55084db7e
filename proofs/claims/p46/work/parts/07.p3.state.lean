/-! THE OBJECT AS ONE VALUE: its numbers and rows; its cells, the addresses given -/
abbrev gS : Type := (Int × Int × Int × Int × Int) × (Int × Int × Int × Int × Int × Int × Int) × ((Int → Int) × (Int → Int) × Int) × ((Int → Int) × (Int → Int) × (Int → Int) × Int × Int × Int) × ((Int → Int) × Int × Int × Int) × (Int × Int × Int × Int × Int) × ((Int → Int) × Int) × ((Int → UInt64)) × ((Int → Int) × (Int → Int) × (Int → Int) × (Int → Int) × (Int → Int) × Int × Int × Int × Int) × ((Int → Int) × (Int → Int) × (Int → Int) × (Int → Int) × (Int → Int) × Int × Int × Int × Int) × ((Int → Int) × (Int → Int) × (Int → Int))
def g_ph (σ : gS) : Int := σ.1.1
def g_mv (σ : gS) : Int := σ.1.2.1
def g_sk (σ : gS) : Int := σ.1.2.2.1
def g_ho (σ : gS) : Int := σ.1.2.2.2.1
def g_lk (σ : gS) : Int := σ.1.2.2.2.2
def g_op (σ : gS) : Int := σ.2.1.1
def g_va (σ : gS) : Int := σ.2.1.2.1
def g_le (σ : gS) : Int := σ.2.1.2.2.1
def g_ja (σ : gS) : Int := σ.2.1.2.2.2.1
def g_cr (σ : gS) : Int := σ.2.1.2.2.2.2.1
def g_p0 (σ : gS) : Int := σ.2.1.2.2.2.2.2.1
def g_p1 (σ : gS) : Int := σ.2.1.2.2.2.2.2.2
def g_se (σ : gS) : Int → Int := σ.2.2.1.1
def g_ba (σ : gS) : Int → Int := σ.2.2.1.2.1
def g_tn (σ : gS) : Int := σ.2.2.1.2.2
def g_fd (σ : gS) : Int → Int := σ.2.2.2.1.1
def g_fn (σ : gS) : Int → Int := σ.2.2.2.1.2.1
def g_fr0 (σ : gS) : Int → Int := σ.2.2.2.1.2.2.1
def g_tu (σ : gS) : Int := σ.2.2.2.1.2.2.2.1
def g_hv (σ : gS) : Int := σ.2.2.2.1.2.2.2.2.1
def g_fi (σ : gS) : Int := σ.2.2.2.1.2.2.2.2.2
def g_fa (σ : gS) : Int → Int := σ.2.2.2.2.1.1
def g_al (σ : gS) : Int := σ.2.2.2.2.1.2.1
def g_hi0 (σ : gS) : Int := σ.2.2.2.2.1.2.2.1
def g_er (σ : gS) : Int := σ.2.2.2.2.1.2.2.2
def g_dg (σ : gS) : Int := σ.2.2.2.2.2.1.1
def g_dl (σ : gS) : Int := σ.2.2.2.2.2.1.2.1
def g_gl (σ : gS) : Int := σ.2.2.2.2.2.1.2.2.1
def g_ll (σ : gS) : Int := σ.2.2.2.2.2.1.2.2.2.1
def g_us (σ : gS) : Int := σ.2.2.2.2.2.1.2.2.2.2
def g_kn (σ : gS) : Int → Int := σ.2.2.2.2.2.2.1.1
def g_ra (σ : gS) : Int := σ.2.2.2.2.2.2.1.2
def g_fe (σ : gS) : Int → UInt64 := σ.2.2.2.2.2.2.2.1
def g_bl (σ : gS) : Int → Int := σ.2.2.2.2.2.2.2.2.1.1
def g_fr (σ : gS) : Int → Int := σ.2.2.2.2.2.2.2.2.1.2.1
def g_fw (σ : gS) : Int → Int := σ.2.2.2.2.2.2.2.2.1.2.2.1
def g_fc (σ : gS) : Int → Int := σ.2.2.2.2.2.2.2.2.1.2.2.2.1
def g_fh (σ : gS) : Int → Int := σ.2.2.2.2.2.2.2.2.1.2.2.2.2.1
def g_sd0 (σ : gS) : Int := σ.2.2.2.2.2.2.2.2.1.2.2.2.2.2.1
def g_cnt (σ : gS) : Int := σ.2.2.2.2.2.2.2.2.1.2.2.2.2.2.2.1
def g_ln (σ : gS) : Int := σ.2.2.2.2.2.2.2.2.1.2.2.2.2.2.2.2.1
def g_gr (σ : gS) : Int := σ.2.2.2.2.2.2.2.2.1.2.2.2.2.2.2.2.2
def g_br (σ : gS) : Int → Int := σ.2.2.2.2.2.2.2.2.2.1.1
def g_qr (σ : gS) : Int → Int := σ.2.2.2.2.2.2.2.2.2.1.2.1
def g_qw (σ : gS) : Int → Int := σ.2.2.2.2.2.2.2.2.2.1.2.2.1
def g_qc (σ : gS) : Int → Int := σ.2.2.2.2.2.2.2.2.2.1.2.2.2.1
def g_qh (σ : gS) : Int → Int := σ.2.2.2.2.2.2.2.2.2.1.2.2.2.2.1
def g_sr (σ : gS) : Int := σ.2.2.2.2.2.2.2.2.2.1.2.2.2.2.2.1
def g_crn (σ : gS) : Int := σ.2.2.2.2.2.2.2.2.2.1.2.2.2.2.2.2.1
def g_lrn (σ : gS) : Int := σ.2.2.2.2.2.2.2.2.2.1.2.2.2.2.2.2.2.1
def g_grn (σ : gS) : Int := σ.2.2.2.2.2.2.2.2.2.1.2.2.2.2.2.2.2.2
def g_bs (σ : gS) : Int → Int := σ.2.2.2.2.2.2.2.2.2.2.1
def g_bb (σ : gS) : Int → Int := σ.2.2.2.2.2.2.2.2.2.2.2.1
def g_bc (σ : gS) : Int → Int := σ.2.2.2.2.2.2.2.2.2.2.2.2
def gW (G : wG) (a : Nat → Nat) (σ : gS) : va_W := (a 0, .inr (9, [.ref (a 1), .ref (a 2), .ref (a 5), .ref (a 9), .ref (a 11), .ref (a 12), .ref (a 14), .ref (a 16), .ref (a 24), .ref (a 32), .ref (a 34), .ref (a 36), .int (zI (g_ph σ)), .int (zI (g_mv σ)), .int (zI (g_sk σ)), .int (zI (g_ho σ)), .int (zI (g_lk σ))])) :: (a 1, .inr (4, [.int (zI (g_op σ)), .int (zI (g_va σ)), .int (zI (g_le σ)), .int (zI (g_ja σ)), .int (zI (g_cr σ)), .int (zI (g_p0 σ)), .int (zI (g_p1 σ))])) :: (a 2, .inr (7, [.ref (a 3), .ref (a 4), .int (zI (g_tn σ))])) :: (a 3, .inl (G.2.1.1, 6, .inl (aI (g_se σ)))) :: (a 4, .inl (G.2.1.2.1, 6, .inr (.inl (aL (g_ba σ))))) :: (a 5, .inr (3, [.ref (a 6), .ref (a 7), .ref (a 8), .int (zI (g_tu σ)), .int (zI (g_hv σ)), .int (zI (g_fi σ))])) :: (a 6, .inl (G.2.1.1, 512, .inl (aI (g_fd σ)))) :: (a 7, .inl (G.2.1.1, 512, .inl (aI (g_fn σ)))) :: (a 8, .inl (G.2.1.1, 512, .inl (aI (g_fr0 σ)))) :: (a 9, .inr (8, [.ref (a 10), .int (zI (g_al σ)), .int (zI (g_hi0 σ)), .long (zL (g_er σ))])) :: (a 10, .inl (G.2.1.1, 7, .inl (aI (g_fa σ)))) :: (a 11, .inr (6, [.int (zI (g_dg σ)), .int (zI (g_dl σ)), .int (zI (g_gl σ)), .int (zI (g_ll σ)), .int (zI (g_us σ))])) :: (a 12, .inr (2, [.ref (a 13), .int (zI (g_ra σ))])) :: (a 13, .inl (G.2.1.2.1, 676, .inr (.inl (aL (g_kn σ))))) :: (a 14, .inr (1, [.ref (a 15)])) :: (a 15, .inl (G.2.1.2.2, 2401, .inr (.inr (.inr (.inl (aD (g_fe σ))))))) :: (a 16, .inr (5, [.ref (a 17), .ref (a 19), .ref (a 20), .ref (a 21), .ref (a 22), .ref (a 23), .int (zI (g_sd0 σ)), .int (zI (g_cnt σ)), .int (zI (g_ln σ)), .int (zI (g_gr σ))])) :: (a 17, .inr (0, [.ref (a 18)])) :: (a 18, .inl (G.2.1.1, 52, .inl (aI (g_bl σ)))) :: (a 19, .inl (G.2.1.1, 3060, .inl (aI (g_fr σ)))) :: (a 20, .inl (G.2.1.1, 3060, .inl (aI (g_fw σ)))) :: (a 21, .inl (G.2.1.2.1, 450, .inr (.inl (aL (g_fc σ))))) :: (a 22, .inl (G.2.1.1, 450, .inl (aI (g_fh σ)))) :: (a 23, .inl (G.2.1.2.1, 26, .inr (.inl (aL p5)))) :: (a 24, .inr (5, [.ref (a 25), .ref (a 27), .ref (a 28), .ref (a 29), .ref (a 30), .ref (a 31), .int (zI (g_sr σ)), .int (zI (g_crn σ)), .int (zI (g_lrn σ)), .int (zI (g_grn σ))])) :: (a 25, .inr (0, [.ref (a 26)])) :: (a 26, .inl (G.2.1.1, 52, .inl (aI (g_br σ)))) :: (a 27, .inl (G.2.1.1, 3060, .inl (aI (g_qr σ)))) :: (a 28, .inl (G.2.1.1, 3060, .inl (aI (g_qw σ)))) :: (a 29, .inl (G.2.1.2.1, 450, .inr (.inl (aL (g_qc σ))))) :: (a 30, .inl (G.2.1.1, 450, .inl (aI (g_qh σ)))) :: (a 31, .inl (G.2.1.2.1, 26, .inr (.inl (aL p5)))) :: (a 32, .inr (0, [.ref (a 33)])) :: (a 33, .inl (G.2.1.1, 52, .inl (aI (g_bs σ)))) :: (a 34, .inr (0, [.ref (a 35)])) :: (a 35, .inl (G.2.1.1, 52, .inl (aI (g_bb σ)))) :: (a 36, .inr (0, [.ref (a 37)])) :: (a 37, .inl (G.2.1.1, 52, .inl (aI (g_bc σ)))) :: []
def s_seat (σ : gS) (pl : Int) : gS := (σ.1, σ.2.1, (fun k => k, fun _ => 0, pl), σ.2.2.2.1, σ.2.2.2.2.1, σ.2.2.2.2.2.1, σ.2.2.2.2.2.2.1, σ.2.2.2.2.2.2.2.1, σ.2.2.2.2.2.2.2.2.1, σ.2.2.2.2.2.2.2.2.2.1, σ.2.2.2.2.2.2.2.2.2.2)
def s_rate (σ : gS) (r : Int) : gS := (σ.1, σ.2.1, σ.2.2.1, σ.2.2.2.1, σ.2.2.2.2.1, σ.2.2.2.2.2.1, (g_kn σ, r), σ.2.2.2.2.2.2.2.1, σ.2.2.2.2.2.2.2.2.1, σ.2.2.2.2.2.2.2.2.2.1, σ.2.2.2.2.2.2.2.2.2.2)
def s_kn (σ : gS) (u : Int → Int) : gS := (σ.1, σ.2.1, σ.2.2.1, σ.2.2.2.1, σ.2.2.2.2.1, σ.2.2.2.2.2.1, (u, g_ra σ), σ.2.2.2.2.2.2.2.1, σ.2.2.2.2.2.2.2.2.1, σ.2.2.2.2.2.2.2.2.2.1, σ.2.2.2.2.2.2.2.2.2.2)
def s_start (σ : gS) (va le ja : Int) : gS := (σ.1, (1, va, le, ja, 0, 0, 0), σ.2.2.1, σ.2.2.2.1, σ.2.2.2.2.1, σ.2.2.2.2.2.1, σ.2.2.2.2.2.2.1, σ.2.2.2.2.2.2.2.1, σ.2.2.2.2.2.2.2.2.1, σ.2.2.2.2.2.2.2.2.2.1, σ.2.2.2.2.2.2.2.2.2.2)
def s_begin (σ : gS) (fi : Int) : gS := ((100, fi, 1, -1, g_lk σ), σ.2.1, σ.2.2.1, (g_fd σ, g_fn σ, g_fr0 σ, 0, g_va σ, fi), σ.2.2.2.2.1, σ.2.2.2.2.2.1, σ.2.2.2.2.2.2.1, σ.2.2.2.2.2.2.2.1, σ.2.2.2.2.2.2.2.2.1, σ.2.2.2.2.2.2.2.2.2.1, (lyP (g_va σ), lyP (g_va σ), g_bc σ))
def s_offer (σ : gS) : gS := ((116, g_mv σ, g_sk σ, g_ho σ, g_lk σ), σ.2.1, σ.2.2.1, σ.2.2.2.1, σ.2.2.2.2.1, σ.2.2.2.2.2.1, σ.2.2.2.2.2.2.1, σ.2.2.2.2.2.2.2.1, σ.2.2.2.2.2.2.2.2.1, σ.2.2.2.2.2.2.2.2.2.1, σ.2.2.2.2.2.2.2.2.2.2)
def s_cube (σ : gS) (k : Int) : gS := ((100, g_mv σ, k * g_sk σ, 1 - g_mv σ, g_lk σ), σ.2.1, σ.2.2.1, σ.2.2.2.1, σ.2.2.2.2.1, σ.2.2.2.2.2.1, σ.2.2.2.2.2.2.1, σ.2.2.2.2.2.2.2.1, σ.2.2.2.2.2.2.2.2.1, σ.2.2.2.2.2.2.2.2.2.1, σ.2.2.2.2.2.2.2.2.2.2)
def s_drop (σ : gS) : gS := ((45, g_mv σ, g_sk σ, g_ho σ, 1), (g_op σ, g_va σ, g_le σ, g_ja σ, crN (g_cr σ) (g_le σ) (if g_mv σ = 0 then g_p0 σ + g_sk σ * 1 else g_p1 σ + g_sk σ * 1), if g_mv σ = 0 then g_p0 σ + g_sk σ * 1 else g_p0 σ, if g_mv σ = 0 then g_p1 σ else g_p1 σ + g_sk σ * 1), (if g_tn σ < 3 then g_se σ else seN (g_se σ) (1 - g_mv σ) (g_tn σ), if g_tn σ < 3 then g_ba σ else pyZ (g_se σ) (if 1 - g_mv σ = 0 then -(g_sk σ * 1) else g_sk σ * 1) (g_ba σ) (g_tn σ), g_tn σ), σ.2.2.2.1, σ.2.2.2.2.1, σ.2.2.2.2.2.1, σ.2.2.2.2.2.2.1, σ.2.2.2.2.2.2.2.1, σ.2.2.2.2.2.2.2.2.1, σ.2.2.2.2.2.2.2.2.2.1, σ.2.2.2.2.2.2.2.2.2.2)
def s_roll (σ : gS) (x y : Int) (fr2 fw2 fc2 fh2 : Int → Int) (cnt2 ln2 gr2 : Int) : gS := ((114, g_mv σ, g_sk σ, g_ho σ, g_lk σ), σ.2.1, σ.2.2.1, σ.2.2.2.1, (up (up (g_fa σ) x (g_fa σ x + 1)) y (up (g_fa σ) x (g_fa σ x + 1) y + 1), g_al σ, g_hi0 σ, g_er σ), (zmax x y, zmin x y, if zmax x y = zmin x y then 4 else 1, if zmax x y = zmin x y then 0 else 1, 0), σ.2.2.2.2.2.2.1, σ.2.2.2.2.2.2.2.1, (g_bs σ, fr2, fw2, fc2, fh2, g_mv σ, cnt2, ln2, gr2), σ.2.2.2.2.2.2.2.2.2.1, σ.2.2.2.2.2.2.2.2.2.2)
def s_undo (σ : gS) : gS := (σ.1, σ.2.1, σ.2.2.1, σ.2.2.2.1, σ.2.2.2.2.1, (g_dg σ, g_dl σ, if g_dg σ = g_dl σ then 4 else 1, if g_dg σ = g_dl σ then 0 else 1, 0), σ.2.2.2.2.2.2.1, σ.2.2.2.2.2.2.2.1, σ.2.2.2.2.2.2.2.2.1, σ.2.2.2.2.2.2.2.2.2.1, (g_bs σ, g_bs σ, g_bc σ))
def s_move (σ : gS) (f d : Int) : gS := (σ.1, σ.2.1, σ.2.2.1, σ.2.2.2.1, σ.2.2.2.2.1, (g_dg σ, g_dl σ, if d = g_dg σ then g_gl σ - 1 else g_gl σ, if d = g_dg σ then g_ll σ else g_ll σ - 1, g_us σ + 1), σ.2.2.2.2.2.2.1, σ.2.2.2.2.2.2.2.1, σ.2.2.2.2.2.2.2.2.1, σ.2.2.2.2.2.2.2.2.2.1, (g_bs σ, stp (g_bb σ) (g_mv σ) f d, g_bc σ))
def s_fin0 (σ : gS) (n hr : Int) (bT u : Int → Int) : gS := ((100, 1 - g_mv σ, g_sk σ, g_ho σ, g_lk σ), σ.2.1, σ.2.2.1, (up (g_fd σ) (g_tu σ) (10 * g_dg σ + g_dl σ), up (g_fn σ) (g_tu σ) n, up (g_fr0 σ) (g_tu σ) (g_fr σ n), g_tu σ + 1, g_hv σ, g_fi σ), (g_fa σ, g_al σ + 1, if 0 < hr then g_hi0 σ + 1 else g_hi0 σ + 0, g_er σ + (g_fw σ (g_gr σ) - g_fw σ n)), σ.2.2.2.2.2.1, σ.2.2.2.2.2.2.1, σ.2.2.2.2.2.2.2.1, σ.2.2.2.2.2.2.2.2.1, σ.2.2.2.2.2.2.2.2.2.1, (bT, bT, u))
def s_fin1 (σ : gS) (n hr : Int) (bT u : Int → Int) : gS := ((45, g_mv σ, g_sk σ, g_ho σ, (kdF (g_op σ) (g_le σ) (g_ja σ) (g_sk σ) bT (1 - g_mv σ))), (g_op σ, g_va σ, g_le σ, g_ja σ, crN (g_cr σ) (g_le σ) (if g_mv σ = 0 then g_p0 σ + g_sk σ * (kdF (g_op σ) (g_le σ) (g_ja σ) (g_sk σ) bT (1 - g_mv σ)) else g_p1 σ + g_sk σ * (kdF (g_op σ) (g_le σ) (g_ja σ) (g_sk σ) bT (1 - g_mv σ))), if g_mv σ = 0 then g_p0 σ + g_sk σ * (kdF (g_op σ) (g_le σ) (g_ja σ) (g_sk σ) bT (1 - g_mv σ)) else g_p0 σ, if g_mv σ = 0 then g_p1 σ else g_p1 σ + g_sk σ * (kdF (g_op σ) (g_le σ) (g_ja σ) (g_sk σ) bT (1 - g_mv σ))), (if g_tn σ < 3 then g_se σ else seN (g_se σ) (1 - g_mv σ) (g_tn σ), if g_tn σ < 3 then g_ba σ else pyZ (g_se σ) (if 1 - g_mv σ = 0 then -(g_sk σ * (kdF (g_op σ) (g_le σ) (g_ja σ) (g_sk σ) bT (1 - g_mv σ))) else g_sk σ * (kdF (g_op σ) (g_le σ) (g_ja σ) (g_sk σ) bT (1 - g_mv σ))) (g_ba σ) (g_tn σ), g_tn σ), (up (g_fd σ) (g_tu σ) (10 * g_dg σ + g_dl σ), up (g_fn σ) (g_tu σ) n, up (g_fr0 σ) (g_tu σ) (g_fr σ n), g_tu σ + 1, g_hv σ, g_fi σ), (g_fa σ, g_al σ + 1, if 0 < hr then g_hi0 σ + 1 else g_hi0 σ + 0, g_er σ + (g_fw σ (g_gr σ) - g_fw σ n)), σ.2.2.2.2.2.1, σ.2.2.2.2.2.2.1, σ.2.2.2.2.2.2.2.1, σ.2.2.2.2.2.2.2.2.1, σ.2.2.2.2.2.2.2.2.2.1, (bT, bT, u))
def s_fe (σ : gS) (u : Int → UInt64) : gS := (σ.1, σ.2.1, σ.2.2.1, σ.2.2.2.1, σ.2.2.2.2.1, σ.2.2.2.2.2.1, σ.2.2.2.2.2.2.1, u, σ.2.2.2.2.2.2.2.2.1, σ.2.2.2.2.2.2.2.2.2.1, σ.2.2.2.2.2.2.2.2.2.2)
def s_bc (σ : gS) (u : Int → Int) : gS := (σ.1, σ.2.1, σ.2.2.1, σ.2.2.2.1, σ.2.2.2.2.1, σ.2.2.2.2.2.1, σ.2.2.2.2.2.2.1, σ.2.2.2.2.2.2.2.1, σ.2.2.2.2.2.2.2.2.1, σ.2.2.2.2.2.2.2.2.2.1, (g_bs σ, g_bb σ, u))
/-! WHAT STAYS: the match for money, the seats, the lists' ranges; the board and the record; a roll -/
def qM (all ph mv sk ho op va le ja cr p0 p1 nt : Int) : Prop := (ph = 45 ∨ ph = 100 ∨ ph = 114 ∨ ph = 116) ∧ (0 ≤ mv ∧ mv ≤ 1) ∧ jzP sk ∧ (ph = 116 → sk ≤ 32) ∧ (-1 ≤ ho ∧ ho ≤ 1) ∧ op = 1 ∧ (va = 98 ∨ va = 110 ∨ va = 104) ∧ lyE va = all ∧ le = 0 ∧ (ja = 0 ∨ ja = 1) ∧ cr = 0 ∧ (0 ≤ p0 ∧ p0 ≤ 200 * nt) ∧ (0 ≤ p1 ∧ p1 ≤ 200 * nt) ∧ (0 ≤ nt ∧ nt ≤ 31)
def qT (seats tn : Int) (se ba : Int → Int) : Prop := ((seats = 2 ∧ tn = 0) ∨ (3 ≤ seats ∧ seats ≤ 6 ∧ tn = seats)) ∧ (∀ k : Int, 0 ≤ k → k < tn → 0 ≤ se k ∧ se k < tn) ∧ sz ba 6 = 0 ∧ sz ba tn = 0
def qL (cnt : Int) (fw fc fh qw qc qh : Int → Int) : Prop := (0 ≤ cnt ∧ cnt ≤ 3060) ∧ (∀ k, -100000 ≤ fw k ∧ fw k ≤ 100000) ∧ (∀ k, -2000000000000000000 ≤ fc k ∧ fc k ≤ 2000000000000000000) ∧ (∀ k, 0 ≤ fh k ∧ fh k ≤ 1073741824) ∧ (∀ k, -100000 ≤ qw k ∧ qw k ≤ 100000) ∧ (∀ k, -2000000000000000000 ≤ qc k ∧ qc k ≤ 2000000000000000000) ∧ (∀ k, 0 ≤ qh k ∧ qh k ≤ 1073741824)
def gI (all seats nt dz : Int) (σ : gS) : Prop := qM all (g_ph σ) (g_mv σ) (g_sk σ) (g_ho σ) (g_op σ) (g_va σ) (g_le σ) (g_ja σ) (g_cr σ) (g_p0 σ) (g_p1 σ) nt ∧ qT seats (g_tn σ) (g_se σ) (g_ba σ) ∧ qL (g_cnt σ) (g_fw σ) (g_fc σ) (g_fh σ) (g_qw σ) (g_qc σ) (g_qh σ) ∧ chI (g_fe σ) ∧ (dz = 0 → g_fa σ = fun _ => 0)
def gB (all nt : Int) (σ : gS) : Prop := g_hv σ = g_va σ ∧ jzH (g_ph σ) (g_mv σ) (g_tu σ) (g_hv σ) (g_fi σ) (g_fd σ) (g_fn σ) (g_fr0 σ) (g_fn σ) (g_fd σ) (g_bs σ) nt ∧ (VB all (g_bs σ) ∧ nOv (g_bs σ)) ∧ (VB all (g_bb σ) ∧ nOv (g_bb σ))
def gR (σ : gS) : Prop := (1 ≤ g_dl σ ∧ g_dl σ ≤ g_dg σ ∧ g_dg σ ≤ 6) ∧ RepP (g_bs σ) (g_mv σ) (plc (g_mv σ) (g_bs σ) (g_dg σ) (g_dl σ)).2 (g_fr σ) (g_fw σ) (g_cnt σ) (g_gr σ) ∧ g_ln σ = (plc (g_mv σ) (g_bs σ) (g_dg σ) (g_dl σ)).1
section GI
variable {all seats nt dz : Int} {σ : gS}
theorem jzP_rg {k : Int} (h : jzP k) : 1 ≤ k ∧ k ≤ 64 := by unfold jzP at h; omega
theorem gI.ph (h : gI all seats nt dz σ) : 0 ≤ g_ph σ ∧ g_ph σ < 65536 := by have := h.1.1; omega
theorem gI.mv (h : gI all seats nt dz σ) : 0 ≤ g_mv σ ∧ g_mv σ ≤ 1 := h.1.2.1
theorem gI.sk (h : gI all seats nt dz σ) : 1 ≤ g_sk σ ∧ g_sk σ ≤ 64 := jzP_rg h.1.2.2.1
theorem gI.ho (h : gI all seats nt dz σ) : -1 ≤ g_ho σ ∧ g_ho σ ≤ 1 := h.1.2.2.2.2.1
theorem gI.op (h : gI all seats nt dz σ) : g_op σ = 1 := h.1.2.2.2.2.2.1
theorem gI.va (h : gI all seats nt dz σ) : g_va σ = 98 ∨ g_va σ = 110 ∨ g_va σ = 104 := h.1.2.2.2.2.2.2.1
theorem gI.al (h : gI all seats nt dz σ) : lyE (g_va σ) = all := h.1.2.2.2.2.2.2.2.1
theorem gI.le (h : gI all seats nt dz σ) : g_le σ = 0 := h.1.2.2.2.2.2.2.2.2.1
theorem gI.ja (h : gI all seats nt dz σ) : g_ja σ = 0 ∨ g_ja σ = 1 := h.1.2.2.2.2.2.2.2.2.2.1
theorem gI.cr (h : gI all seats nt dz σ) : g_cr σ = 0 := h.1.2.2.2.2.2.2.2.2.2.2.1
theorem gI.p0 (h : gI all seats nt dz σ) : 0 ≤ g_p0 σ ∧ g_p0 σ ≤ 200 * nt := h.1.2.2.2.2.2.2.2.2.2.2.2.1
theorem gI.p1 (h : gI all seats nt dz σ) : 0 ≤ g_p1 σ ∧ g_p1 σ ≤ 200 * nt := h.1.2.2.2.2.2.2.2.2.2.2.2.2.1
theorem gI.tmx (h : gI all seats nt dz σ) : 0 ≤ nt ∧ nt ≤ 31 := h.1.2.2.2.2.2.2.2.2.2.2.2.2.2
theorem gI.all15 (h : gI all seats nt dz σ) : all ≤ 15 := by rw [← h.al]; exact iz_lyE _
theorem gI.tn (h : gI all seats nt dz σ) : 0 ≤ g_tn σ ∧ g_tn σ ≤ 6 := by have := h.2.1.1; omega
theorem gI.se (h : gI all seats nt dz σ) : ∀ k : Int, 0 ≤ k → k < g_tn σ → 0 ≤ g_se σ k ∧ g_se σ k ≤ 5 := fun k h0 h1 => by
  have h2 := h.2.1.2.1 k h0 h1
  have h3 := h.tn
  omega
/-- another numbering: the same but what is named -/
theorem qM_ph {all ph mv sk ho op va le ja cr p0 p1 nt q : Int} (h : qM all ph mv sk ho op va le ja cr p0 p1 nt) (hq : q = 45 ∨ q = 100 ∨ q = 114 ∨ q = 116) (h2 : q = 116 → sk ≤ 32) : qM all q mv sk ho op va le ja cr p0 p1 nt :=
  ⟨hq, h.2.1, h.2.2.1, h2, h.2.2.2.2⟩
theorem qM_mv {all ph mv sk ho op va le ja cr p0 p1 nt q : Int} (h : qM all ph mv sk ho op va le ja cr p0 p1 nt) (hq : 0 ≤ q ∧ q ≤ 1) : qM all ph q sk ho op va le ja cr p0 p1 nt :=
  ⟨h.1, hq, h.2.2⟩
theorem qM_more {all ph mv sk ho op va le ja cr p0 p1 nt : Int} (h : qM all ph mv sk ho op va le ja cr p0 p1 nt) (hn : nt ≤ 30) : qM all ph mv sk ho op va le ja cr p0 p1 (nt + 1) := by
  obtain ⟨a1, a2, a3, a4, a5, a6, a7, a8, a9, b1, b2, b3, b4, b5⟩ := h
  exact ⟨a1, a2, a3, a4, a5, a6, a7, a8, a9, b1, b2, by omega, by omega, by omega⟩
theorem qM_end {all ph mv sk ho op va le ja cr p0 p1 nt k : Int} (h : qM all ph mv sk ho op va le ja cr p0 p1 nt) (hn : nt ≤ 30) (hk : 1 ≤ k ∧ k ≤ 3) : qM all 45 mv sk ho op va le ja (crN cr le (if mv = 0 then p0 + sk * k else p1 + sk * k)) (if mv = 0 then p0 + sk * k else p0) (if mv = 0 then p1 else p1 + sk * k) (nt + 1) := by
  obtain ⟨a1, a2, a3, a4, a5, a6, a7, a8, a9, b1, b2, b3, b4, b5⟩ := h
  have h3 : 1 ≤ sk * k ∧ sk * k ≤ 192 := by
    have h4 := jzP_rg a3
    rcases (show k = 1 ∨ k = 2 ∨ k = 3 by omega) with e | e | e <;> subst e <;> omega
  generalize sk * k = w at h3 ⊢
  refine ⟨Or.inl rfl, a2, a3, fun e => absurd e (by omega), a5, a6, a7, a8, a9, b1, ?_, ?_, ?_, by omega⟩
  · unfold crN
    rw [if_neg (by omega), if_neg (by omega)]
    exact b2
  · split <;> omega
  · split <;> omega
theorem qT_end {seats tn mv v : Int} {se ba : Int → Int} (h : qT seats tn se ba) (hm : 0 ≤ mv ∧ mv ≤ 1) : qT seats tn (if tn < 3 then se else seN se (1 - mv) tn) (if tn < 3 then ba else pyZ se v ba tn) := by
  by_cases c : tn < 3
  · rw [if_pos c, if_pos c]
    exact h
  · rw [if_neg c, if_neg c]
    obtain ⟨t1, t2, t3, t4⟩ := h
    have e : pyZ se v ba tn = pyN se v ba (tn - 1).toNat := rfl
    refine ⟨t1, fun k h0 h1 => seN_rg t2 (by omega) h0 h1, ?_, ?_⟩
    · rw [e, sz_pyN t2 (M := 6) (by omega) _ (by omega)]
      exact t3
    · rw [e, sz_pyN t2 (M := tn) (Int.le_refl _) _ (by omega)]
      exact t4
theorem jzH_mv0 {ph mv tu hv fi : Int} {fd fn fr0 w42 w43 bs : Int → Int} {n q : Int} (h : jzH ph mv tu hv fi fd fn fr0 w42 w43 bs n) (hp : ph ≠ 45) (hn : n ≤ q) : jzH ph mv tu hv fi fd fn fr0 w42 w43 bs q := ⟨⟨h.1.1, by have := h.1.2; omega⟩, h.2⟩
theorem jzH_q {ph mv tu hv fi : Int} {fd fn fr0 w42 w43 bs : Int → Int} {n q : Int} (h : jzH ph mv tu hv fi fd fn fr0 w42 w43 bs n) (hp : ph ≠ 45) : jzH q mv tu hv fi fd fn fr0 w42 w43 bs n := by
  obtain ⟨a1, a2, a3, a4, a5, T, b1, b2, b3, b4, b5⟩ := h
  exact ⟨a1, a2, a3, a4, a5, T, b1, b2, b3, b4, fun _ => b5 hp⟩
theorem jzH_more {ph mv tu hv fi : Int} {fd fn fr0 w42 w43 bs : Int → Int} {n : Int} (h : jzH ph mv tu hv fi fd fn fr0 w42 w43 bs n) : jzH ph mv tu hv fi fd fn fr0 w42 w43 bs (n + 1) := ⟨⟨h.1.1, by have := h.1.2; omega⟩, h.2⟩
/-! the steps -/
theorem tr_begin {fi : Int} (hI : gI all seats nt dz σ) (hf : 0 ≤ fi ∧ fi ≤ 1) : gI all seats nt dz (s_begin σ fi) ∧ gB all nt (s_begin σ fi) ∧ g_ph (s_begin σ fi) = 100 ∧ g_bb (s_begin σ fi) = g_bs (s_begin σ fi) ∧ g_tu (s_begin σ fi) = 0 ∧ g_sk (s_begin σ fi) = 1 ∧ g_ho (s_begin σ fi) = -1 := by
  have hva := hI.va
  have hal := hI.al
  have hnt := hI.tmx
  obtain ⟨hM, hT, hL, hC, hZ⟩ := hI
  obtain ⟨a1, a2, a3, a4, a5, a6, a7, a8, a9, b1, b2, b3, b4, b5⟩ := hM
  have hv : VB all (lyP (g_va σ)) := by rw [← hal]; exact iz_lyP _
  have hn := nOv_lyP hva
  refine ⟨⟨⟨Or.inr (Or.inl rfl), hf, Or.inl rfl, fun e => by have e9 : (100 : Int) = 116 := e; omega, ⟨by show (-1 : Int) ≤ -1; omega, by show (-1 : Int) ≤ 1; omega⟩, a6, a7, a8, a9, b1, b2, b3, b4, b5⟩, hT, hL, hC, hZ⟩, ⟨rfl, ?_, ⟨hv, hn⟩, ⟨hv, hn⟩⟩, rfl, rfl, rfl, rfl, rfl⟩
  exact ⟨⟨Int.le_refl _, hnt.1⟩, by show 0 ≤ g_va σ ∧ g_va σ < 65536; omega, hf, fun k h0 h1 => rfl, fun k h0 h1 => rfl, [], rfl, fun k hk => by simp at hk, trivial, rfl, fun _ => rfl⟩
theorem tr_offer (hI : gI all seats nt dz σ) (hB : gB all nt σ) (hp : g_ph σ = 100) (hs : g_sk σ < 64) : gI all seats nt dz (s_offer σ) ∧ gB all nt (s_offer σ) ∧ g_ph (s_offer σ) = 116 ∧ g_mv (s_offer σ) = g_mv σ ∧ g_sk (s_offer σ) = g_sk σ ∧ g_sk σ ≤ 32 ∧ (g_bb (s_offer σ) = g_bb σ ∧ g_bs (s_offer σ) = g_bs σ ∧ g_tu (s_offer σ) = g_tu σ) := by
  have h32 : g_sk σ ≤ 32 := by
    have := hI.1.2.2.1
    unfold jzP at this
    omega
  exact ⟨⟨qM_ph hI.1 (Or.inr (Or.inr (Or.inr rfl))) (fun _ => h32), hI.2⟩, ⟨hB.1, jzH_q hB.2.1 (by omega), hB.2.2⟩, rfl, rfl, rfl, h32, rfl, rfl, rfl⟩
theorem tr_cube {k : Int} (hI : gI all seats nt dz σ) (hB : gB all nt σ) (hp : g_ph σ = 116) (hk : k = 2 ∨ (k = 4 ∧ 4 * g_sk σ ≤ 64)) : gI all seats nt dz (s_cube σ k) ∧ gB all nt (s_cube σ k) ∧ g_ph (s_cube σ k) = 100 ∧ g_mv (s_cube σ k) = g_mv σ ∧ g_sk (s_cube σ k) = k * g_sk σ ∧ g_ho (s_cube σ k) = 1 - g_mv σ ∧ (g_bb (s_cube σ k) = g_bb σ ∧ g_bs (s_cube σ k) = g_bs σ ∧ g_tu (s_cube σ k) = g_tu σ) := by
  have hm := hI.mv
  obtain ⟨hM, hR⟩ := hI
  obtain ⟨a1, a2, a3, a4, a5, a6⟩ := hM
  have h32 := a4 hp
  refine ⟨⟨⟨Or.inr (Or.inl rfl), a2, ?_, fun e => by have e9 : (100 : Int) = 116 := e; omega, ⟨by show -1 ≤ 1 - g_mv σ; omega, by show 1 - g_mv σ ≤ 1; omega⟩, a6⟩, hR⟩, ⟨hB.1, jzH_q hB.2.1 (by omega), hB.2.2⟩, rfl, rfl, rfl, rfl, rfl, rfl, rfl⟩
  show jzP (k * g_sk σ)
  unfold jzP at a3 ⊢
  rcases hk with e | ⟨e, e2⟩ <;> subst e <;> omega
theorem tr_drop (hI : gI all seats nt dz σ) (hB : gB all nt σ) (hp : g_ph σ = 116) (hn : nt ≤ 30) : gI all seats (nt + 1) dz (s_drop σ) ∧ gB all (nt + 1) (s_drop σ) ∧ g_ph (s_drop σ) = 45 ∧ (g_bb (s_drop σ) = g_bb σ ∧ g_bs (s_drop σ) = g_bs σ) := by
  have hm := hI.mv
  exact ⟨⟨qM_end hI.1 hn (by omega), qT_end hI.2.1 hm, hI.2.2⟩, ⟨hB.1, jzH_more (jzH_q hB.2.1 (by omega)), hB.2.2⟩, rfl, rfl, rfl⟩
theorem zmm {x y : Int} (hx : 1 ≤ x ∧ x ≤ 6) (hy : 1 ≤ y ∧ y ≤ 6) : 1 ≤ zmin x y ∧ zmin x y ≤ zmax x y ∧ zmax x y ≤ 6 := by
  unfold zmin zmax
  split <;> split <;> omega
theorem tr_roll {x y cnt2 ln2 gr2 : Int} {fr2 fw2 fc2 fh2 : Int → Int} (hI : gI all seats nt dz σ) (hB : gB all nt σ) (hp : g_ph σ = 100) (hd : 0 ≤ dz) (hbb : g_bb σ = g_bs σ) (hx : 1 ≤ x ∧ x ≤ 6) (hy : 1 ≤ y ∧ y ≤ 6) (hR : RepP (g_bs σ) (g_mv σ) (plc (g_mv σ) (g_bs σ) (zmax x y) (zmin x y)).2 fr2 fw2 cnt2 gr2) (hl : ln2 = (plc (g_mv σ) (g_bs σ) (zmax x y) (zmin x y)).1) (h6 : ∀ k, -2000000000000000000 ≤ fc2 k ∧ fc2 k ≤ 2000000000000000000) (h7 : ∀ k, 0 ≤ fh2 k ∧ fh2 k ≤ 1073741824) : gI all seats nt (dz + 2) (s_roll σ x y fr2 fw2 fc2 fh2 cnt2 ln2 gr2) ∧ gB all nt (s_roll σ x y fr2 fw2 fc2 fh2 cnt2 ln2 gr2) ∧ gR (s_roll σ x y fr2 fw2 fc2 fh2 cnt2 ln2 gr2) ∧ g_ph (s_roll σ x y fr2 fw2 fc2 fh2 cnt2 ln2 gr2) = 114 ∧ g_us (s_roll σ x y fr2 fw2 fc2 fh2 cnt2 ln2 gr2) = 0 ∧ 1 ≤ cnt2 := by
  have hc := plc_cap (g := zmax x y) (x := zmin x y) hB.2.2.1.1 hI.all15 hI.mv (by have := zmm hx hy; omega) (by have := zmm hx hy; omega)
  have hpos := plc_pos (g_mv σ) (g_bs σ) (zmax x y) (zmin x y)
  have hR1 := hR.1
  refine ⟨⟨qM_ph hI.1 (Or.inr (Or.inr (Or.inl rfl))) (fun e => by have e9 : (114 : Int) = 116 := e; omega), hI.2.1, ⟨by show 0 ≤ cnt2 ∧ cnt2 ≤ 3060; omega, hR.2.2.2, h6, h7, hI.2.2.1.2.2.2.2⟩, hI.2.2.2.1, fun e => by omega⟩, ⟨hB.1, jzH_q hB.2.1 (by omega), hB.2.2⟩, ⟨zmm hx hy, hR, hl⟩, rfl, rfl, by omega⟩
theorem tr_undo (hI : gI all seats nt dz σ) (hB : gB all nt σ) (hR : gR σ) : gI all seats nt dz (s_undo σ) ∧ gB all nt (s_undo σ) ∧ gR (s_undo σ) ∧ g_ph (s_undo σ) = g_ph σ ∧ g_bb (s_undo σ) = g_bs (s_undo σ) ∧ (g_gl (s_undo σ) = if g_dg σ = g_dl σ then 4 else 1) ∧ (g_ll (s_undo σ) = if g_dg σ = g_dl σ then 0 else 1) ∧ (g_mv (s_undo σ) = g_mv σ ∧ g_tu (s_undo σ) = g_tu σ ∧ g_bs (s_undo σ) = g_bs σ ∧ g_dg (s_undo σ) = g_dg σ ∧ g_dl (s_undo σ) = g_dl σ ∧ g_cnt (s_undo σ) = g_cnt σ) :=
  ⟨⟨hI.1, hI.2⟩, ⟨hB.1, hB.2.1, hB.2.2.1, hB.2.2.1⟩, hR, rfl, rfl, rfl, rfl, rfl, rfl, rfl, rfl, rfl, rfl⟩
theorem tr_move {f d : Int} (hI : gI all seats nt dz σ) (hB : gB all nt σ) (hR : gR σ) (hc : canP (g_bb σ) (g_mv σ) f d) (hd : 1 ≤ d) : gI all seats nt dz (s_move σ f d) ∧ gB all nt (s_move σ f d) ∧ gR (s_move σ f d) :=
  ⟨⟨hI.1, hI.2⟩, ⟨hB.1, hB.2.1, hB.2.2.1, hc.VB hB.2.2.2.1 hI.mv hd, nOv_stp hB.2.2.2.2 hI.mv hc hd hB.2.2.2.1.1⟩, hR⟩
theorem tr_fin {n hr : Int} {u : Int → Int} {r : Row} (hI : gI all seats nt dz σ) (hB : gB all nt σ) (hp : g_ph σ = 114) (hn : nt ≤ 30) (hl : lgR (g_mv σ) (g_bs σ) r) (h4 : r.length ≤ 4) (hr9 : g_fr σ n = rc r) : (gI all seats (nt + 1) dz (s_fin0 σ n hr (poR (g_mv σ) (g_bs σ) r) u) ∧ gB all (nt + 1) (s_fin0 σ n hr (poR (g_mv σ) (g_bs σ) r) u)) ∧ (gI all seats (nt + 1) dz (s_fin1 σ n hr (poR (g_mv σ) (g_bs σ) r) u) ∧ gB all (nt + 1) (s_fin1 σ n hr (poR (g_mv σ) (g_bs σ) r) u)) := by
  have hm := hI.mv
  have hv := lgR_VB hm hl hB.2.2.1.1
  have ho := nOv_poR hm r _ hB.2.2.1.1 hB.2.2.1.2 hl
  have hk := iz_kd3 (g_op σ) (g_le σ) (g_ja σ) (g_sk σ) (poR (g_mv σ) (g_bs σ) r) (1 - g_mv σ)
  have hM0 := qM_more (qM_mv (qM_ph (q := 100) hI.1 (Or.inr (Or.inl rfl)) (fun e => by omega)) (q := 1 - g_mv σ) (by omega)) hn
  refine ⟨⟨⟨hM0, hI.2⟩, ⟨hB.1, jzH_play (q := 100) (m := 1 - g_mv σ) hB.2.1 (by omega) hl h4 hr9 (fun _ => rfl), ⟨hv, ho⟩, ⟨hv, ho⟩⟩⟩, ⟨⟨qM_end hI.1 hn hk, qT_end hI.2.1 hm, hI.2.2⟩, ⟨hB.1, jzH_play (q := 45) (m := g_mv σ) hB.2.1 (by omega) hl h4 hr9 (fun e => absurd rfl e), ⟨hv, ho⟩, ⟨hv, ho⟩⟩⟩⟩
theorem tr_more (hI : gI all seats nt dz σ) (hn : nt ≤ 30) : gI all seats (nt + 1) dz σ := ⟨qM_more hI.1 hn, hI.2⟩
theorem tr_moreB (hB : gB all nt σ) : gB all (nt + 1) σ := ⟨hB.1, jzH_more hB.2.1, hB.2.2⟩
/-- the first play that leads where a play leads is that play -/
theorem fdI_of {k : Int} (hI : gI all seats nt dz σ) (hB : gB all nt σ) (hR : gR σ) (h0 : 0 ≤ k) (h1 : k < g_cnt σ) (hb : g_bb σ = poR (g_mv σ) (g_bs σ) ((plc (g_mv σ) (g_bs σ) (g_dg σ) (g_dl σ)).2.getD k.toNat [])) : fdI (g_mv σ) (g_bs σ) (g_bb σ) (plc (g_mv σ) (g_bs σ) (g_dg σ) (g_dl σ)).2 = k := by
  rw [hb]
  have h2 := hR.2.1.1
  exact fdI_is (plc_dist hB.2.2.1.1 hI.mv (by have := hR.1; omega) (by have := hR.1; omega) hR.1.2.1) h0 (by omega)
end GI
section GP
variable {all seats nt dz : Int} {σ : gS}
theorem gI_op9 (h : gI all seats nt dz σ) : -2147483648 ≤ g_op σ ∧ g_op σ < 2147483648 := by have := h.op; omega
theorem gI_cr9 (h : gI all seats nt dz σ) : -2147483648 ≤ g_cr σ ∧ g_cr σ < 2147483648 := by have := h.cr; omega
theorem gI_le9 (h : gI all seats nt dz σ) : -2147483648 ≤ g_le σ ∧ g_le σ < 2147483648 := by have := h.le; omega
theorem gI_lem (h : gI all seats nt dz σ) : -2147483647 ≤ g_le σ := by have := h.le; omega
theorem gI_ja9 (h : gI all seats nt dz σ) : -2147483648 ≤ g_ja σ ∧ g_ja σ < 2147483648 := by have := h.ja; omega
theorem gI_p0m (h : gI all seats nt dz σ) : -1000000 ≤ g_p0 σ ∧ g_p0 σ ≤ 1000000 := by have := h.p0; have := h.tmx; omega
theorem gI_p1m (h : gI all seats nt dz σ) : -1000000 ≤ g_p1 σ ∧ g_p1 σ ≤ 1000000 := by have := h.p1; have := h.tmx; omega
theorem gI_p09 (h : gI all seats nt dz σ) : -2147483648 ≤ g_p0 σ ∧ g_p0 σ < 2147483648 := by have := gI_p0m h; omega
theorem gI_p19 (h : gI all seats nt dz σ) : -2147483648 ≤ g_p1 σ ∧ g_p1 σ < 2147483648 := by have := gI_p1m h; omega
theorem gI_va9 (h : gI all seats nt dz σ) : 0 ≤ g_va σ ∧ g_va σ < 65536 := by have := h.va; omega
theorem gB_tu (h : gI all seats nt dz σ) (hB : gB all nt σ) : 0 ≤ g_tu σ ∧ g_tu σ < 512 := by have := h.tmx; have := hB.2.1.1; omega
theorem gB_tu5 (h : gI all seats nt dz σ) (hB : gB all nt σ) : 0 ≤ g_tu σ ∧ g_tu σ ≤ 512 := by have := gB_tu h hB; omega
theorem gB_ok (h : gI all seats nt dz σ) (hB : gB all nt σ) : okB (g_bb σ) := hB.2.2.2.1.ok (by have := h.all15; omega)
theorem gR_lg (h : gI all seats nt dz σ) (hB : gB all nt σ) (hR : gR σ) : ∀ r ∈ (plc (g_mv σ) (g_bs σ) (g_dg σ) (g_dl σ)).2, lgR (g_mv σ) (g_bs σ) r ∧ (r.length : Int) = g_ln σ := by
  rw [hR.2.2]
  exact plc_lg hB.2.2.1.1 h.mv (by have := hR.1; omega) (by have := hR.1; omega) hR.1.2.1
theorem gR_ln (h : gI all seats nt dz σ) (hB : gB all nt σ) (hR : gR σ) : 0 ≤ g_ln σ ∧ g_ln σ ≤ 4 := by
  rw [hR.2.2]
  exact plc_ln hB.2.2.1.1 h.mv (by have := hR.1; omega) (by have := hR.1; omega) hR.1.2.1
theorem gR_ls (h : gI all seats nt dz σ) (hB : gB all nt σ) (hR : gR σ) : ∀ r ∈ (plc (g_mv σ) (g_bs σ) (g_dg σ) (g_dl σ)).2, lgR (g_mv σ) (g_bs σ) r ∧ r.length ≤ 4 := fun r hr => by
  have h1 := gR_lg h hB hR r hr
  have h2 := gR_ln h hB hR
  exact ⟨h1.1, by omega⟩
theorem gR_at (h : gI all seats nt dz σ) (hB : gB all nt σ) (hR : gR σ) {k : Int} (h0 : 0 ≤ k) (h1 : k < g_cnt σ) : (plc (g_mv σ) (g_bs σ) (g_dg σ) (g_dl σ)).2.getD k.toNat [] ∈ (plc (g_mv σ) (g_bs σ) (g_dg σ) (g_dl σ)).2 ∧ g_fr σ k = rc ((plc (g_mv σ) (g_bs σ) (g_dg σ) (g_dl σ)).2.getD k.toNat []) := by
  have h2 := hR.2.1.1
  exact ⟨gD_m (by omega), (RepP_w hR.2.1 ⟨h0, h1⟩).2⟩
theorem gR_rr (h : gI all seats nt dz σ) (hB : gB all nt σ) (hR : gR σ) : ∀ k : Int, 0 ≤ k → k < g_cnt σ → 0 ≤ g_fr σ k ∧ g_fr σ k < 4294967296 := fun k h0 h1 => by
  have h2 := gR_at h hB hR h0 h1
  have h3 := gR_ls h hB hR _ h2.1
  rw [h2.2]
  exact rc_4 h3.1 h3.2
theorem gR_g9 (hR : gR σ) : 0 ≤ g_cnt σ → 0 ≤ g_gr σ ∧ (g_gr σ < g_cnt σ ∨ (g_cnt σ = 0 ∧ g_gr σ = 0)) := fun _ => (RepP_gr hR.2.1).2
theorem gR_dg (hR : gR σ) : 1 ≤ g_dg σ ∧ g_dg σ ≤ 6 := by have := hR.1; omega
theorem gR_dl (hR : gR σ) : 1 ≤ g_dl σ ∧ g_dl σ ≤ 6 := by have := hR.1; omega
theorem gR_dg9 (hR : gR σ) : -2147483648 ≤ g_dg σ ∧ g_dg σ < 2147483648 := by have := hR.1; omega
theorem gR_dl9 (hR : gR σ) : -2147483648 ≤ g_dl σ ∧ g_dl σ < 2147483648 := by have := hR.1; omega
/-- a move of a play, read out of its number -/
theorem gR_mv (h : gI all seats nt dz σ) (hB : gB all nt σ) (hR : gR σ) {k : Int} (h0 : 0 ≤ k) (h1 : k < g_cnt σ) {j : Int} (h2 : 0 ≤ j) (h3 : j < g_ln σ) : (g_fr σ k / p8 j % 256) / 8 = (((plc (g_mv σ) (g_bs σ) (g_dg σ) (g_dl σ)).2.getD k.toNat []).getD j.toNat (0, 0)).1 ∧ (g_fr σ k / p8 j % 256) % 8 = (((plc (g_mv σ) (g_bs σ) (g_dg σ) (g_dl σ)).2.getD k.toNat []).getD j.toNat (0, 0)).2 := by
  have h4 := gR_at h hB hR h0 h1
  have h5 := gR_ls h hB hR _ h4.1
  have h6 := (gR_lg h hB hR _ h4.1).2
  have h7 := iz_rc _ _ j.toNat h5.1 h5.2 (by omega)
  rw [Int.toNat_of_nonneg h2] at h7
  rw [h4.2, h7.1]
  omega
theorem sm_le {f g : Int → Int} : ∀ {n : Nat}, (∀ k : Int, 0 ≤ k → k < n → f k ≤ g k) → sm f n ≤ sm g n
  | 0, _ => Int.le_refl _
  | n + 1, h => by
    rw [sm, sm]
    have h1 := sm_le (f := f) (g := g) (n := n) (fun k h0 h1 => h k h0 (by omega))
    have h2 := h n (by omega) (by omega)
    omega
theorem sm_25 (g : Int → Int) : ∀ n : Nat, sm (fun k => 25 * g k) n = 25 * sm g n
  | 0 => rfl
  | n + 1 => by
    rw [sm, sm, sm_25 g n]
    omega
theorem pipB_rg {n0 : Int} {b : Int → Int} {sd : Int} (hv : VB n0 b) (hn : n0 ≤ 15) (hs : 0 ≤ sd ∧ sd ≤ 1) : 0 ≤ pipB b sd ∧ pipB b sd ≤ 375 := by
  have h1 := hv.m hs
  have e : ((26 : Int).toNat : Int) = 26 := rfl
  have h2 : sm (fun p => p * b (26 * sd + p)) (26 : Int).toNat ≤ sm (fun p => 25 * b (26 * sd + p)) (26 : Int).toNat := sm_le (fun k h0 h1 => Int.mul_le_mul_of_nonneg_right (by omega) (hv.1 _))
  have h3 : sm (fun p => 0 * b (26 * sd + p)) (26 : Int).toNat ≤ sm (fun p => p * b (26 * sd + p)) (26 : Int).toNat := sm_le (fun k h0 h1 => Int.mul_le_mul_of_nonneg_right h0 (hv.1 _))
  have h4 := sm_25 (fun p => b (26 * sd + p)) (26 : Int).toNat
  have h5 : sm (fun p => 0 * b (26 * sd + p)) (26 : Int).toNat = sm (fun _ => 0) (26 : Int).toNat := sm_congr (fun k _ _ => Int.zero_mul _)
  have h6 : sm (fun _ => 0) (26 : Int).toNat = 0 := rfl
  have h7 : sm (fun p => b (26 * sd + p)) (26 : Int).toNat = n0 := h1
  have h8 : pipB b sd = sm (fun p => p * b (26 * sd + p)) (26 : Int).toNat := rfl
  omega
end GP
