/-! the state that both sides speak of -/
def xS : Type := ((Nat) × (Nat → Nat) × (Nat → Nat) × (Nat → Int32) × (Nat → Nat)) × ((Nat) × (Nat → Nat) × (Nat → Nat) × (Nat → Nat → Nat) × (Nat → Nat → Nat)) × ((Nat) × (Nat → Nat) × (Nat → Nat) × (Nat → Nat))
def xS.N (zz : xS) : Nat := zz.1.1
def xS.tg (zz : xS) : Nat → Nat := zz.1.2.1
def xS.hd (zz : xS) : Nat → Nat := zz.1.2.2.1
def xS.wt (zz : xS) : Nat → Int32 := zz.1.2.2.2.1
def xS.fb (zz : xS) : Nat → Nat := zz.1.2.2.2.2
def xS.E (zz : xS) : Nat := zz.2.1.1
def xS.gn (zz : xS) : Nat → Nat := zz.2.1.2.1
def xS.ks (zz : xS) : Nat → Nat := zz.2.1.2.2.1
def xS.kt (zz : xS) : Nat → Nat → Nat := zz.2.1.2.2.2.1
def xS.kh (zz : xS) : Nat → Nat → Nat := zz.2.1.2.2.2.2
def xS.A (zz : xS) : Nat := zz.2.2.1
def xS.qs (zz : xS) : Nat → Nat := zz.2.2.2.1
def xS.qx (zz : xS) : Nat → Nat := zz.2.2.2.2.1
def xS.qy (zz : xS) : Nat → Nat := zz.2.2.2.2.2
def xS.mk (zN : Nat) (ztg : Nat → Nat) (zhd : Nat → Nat) (zwt : Nat → Int32) (zfb : Nat → Nat) (zE : Nat) (zgn : Nat → Nat) (zks : Nat → Nat) (zkt : Nat → Nat → Nat) (zkh : Nat → Nat → Nat) (zA : Nat) (zqs : Nat → Nat) (zqx : Nat → Nat) (zqy : Nat → Nat) : xS := ((zN, ztg, zhd, zwt, zfb), (zE, zgn, zks, zkt, zkh), (zA, zqs, zqx, zqy))
theorem xS_N_mk {zN : Nat} {ztg : Nat → Nat} {zhd : Nat → Nat} {zwt : Nat → Int32} {zfb : Nat → Nat} {zE : Nat} {zgn : Nat → Nat} {zks : Nat → Nat} {zkt : Nat → Nat → Nat} {zkh : Nat → Nat → Nat} {zA : Nat} {zqs : Nat → Nat} {zqx : Nat → Nat} {zqy : Nat → Nat} : (xS.mk zN ztg zhd zwt zfb zE zgn zks zkt zkh zA zqs zqx zqy).N = zN := rfl
theorem xS_tg_mk {zN : Nat} {ztg : Nat → Nat} {zhd : Nat → Nat} {zwt : Nat → Int32} {zfb : Nat → Nat} {zE : Nat} {zgn : Nat → Nat} {zks : Nat → Nat} {zkt : Nat → Nat → Nat} {zkh : Nat → Nat → Nat} {zA : Nat} {zqs : Nat → Nat} {zqx : Nat → Nat} {zqy : Nat → Nat} : (xS.mk zN ztg zhd zwt zfb zE zgn zks zkt zkh zA zqs zqx zqy).tg = ztg := rfl
theorem xS_hd_mk {zN : Nat} {ztg : Nat → Nat} {zhd : Nat → Nat} {zwt : Nat → Int32} {zfb : Nat → Nat} {zE : Nat} {zgn : Nat → Nat} {zks : Nat → Nat} {zkt : Nat → Nat → Nat} {zkh : Nat → Nat → Nat} {zA : Nat} {zqs : Nat → Nat} {zqx : Nat → Nat} {zqy : Nat → Nat} : (xS.mk zN ztg zhd zwt zfb zE zgn zks zkt zkh zA zqs zqx zqy).hd = zhd := rfl
theorem xS_wt_mk {zN : Nat} {ztg : Nat → Nat} {zhd : Nat → Nat} {zwt : Nat → Int32} {zfb : Nat → Nat} {zE : Nat} {zgn : Nat → Nat} {zks : Nat → Nat} {zkt : Nat → Nat → Nat} {zkh : Nat → Nat → Nat} {zA : Nat} {zqs : Nat → Nat} {zqx : Nat → Nat} {zqy : Nat → Nat} : (xS.mk zN ztg zhd zwt zfb zE zgn zks zkt zkh zA zqs zqx zqy).wt = zwt := rfl
theorem xS_fb_mk {zN : Nat} {ztg : Nat → Nat} {zhd : Nat → Nat} {zwt : Nat → Int32} {zfb : Nat → Nat} {zE : Nat} {zgn : Nat → Nat} {zks : Nat → Nat} {zkt : Nat → Nat → Nat} {zkh : Nat → Nat → Nat} {zA : Nat} {zqs : Nat → Nat} {zqx : Nat → Nat} {zqy : Nat → Nat} : (xS.mk zN ztg zhd zwt zfb zE zgn zks zkt zkh zA zqs zqx zqy).fb = zfb := rfl
theorem xS_E_mk {zN : Nat} {ztg : Nat → Nat} {zhd : Nat → Nat} {zwt : Nat → Int32} {zfb : Nat → Nat} {zE : Nat} {zgn : Nat → Nat} {zks : Nat → Nat} {zkt : Nat → Nat → Nat} {zkh : Nat → Nat → Nat} {zA : Nat} {zqs : Nat → Nat} {zqx : Nat → Nat} {zqy : Nat → Nat} : (xS.mk zN ztg zhd zwt zfb zE zgn zks zkt zkh zA zqs zqx zqy).E = zE := rfl
theorem xS_gn_mk {zN : Nat} {ztg : Nat → Nat} {zhd : Nat → Nat} {zwt : Nat → Int32} {zfb : Nat → Nat} {zE : Nat} {zgn : Nat → Nat} {zks : Nat → Nat} {zkt : Nat → Nat → Nat} {zkh : Nat → Nat → Nat} {zA : Nat} {zqs : Nat → Nat} {zqx : Nat → Nat} {zqy : Nat → Nat} : (xS.mk zN ztg zhd zwt zfb zE zgn zks zkt zkh zA zqs zqx zqy).gn = zgn := rfl
theorem xS_ks_mk {zN : Nat} {ztg : Nat → Nat} {zhd : Nat → Nat} {zwt : Nat → Int32} {zfb : Nat → Nat} {zE : Nat} {zgn : Nat → Nat} {zks : Nat → Nat} {zkt : Nat → Nat → Nat} {zkh : Nat → Nat → Nat} {zA : Nat} {zqs : Nat → Nat} {zqx : Nat → Nat} {zqy : Nat → Nat} : (xS.mk zN ztg zhd zwt zfb zE zgn zks zkt zkh zA zqs zqx zqy).ks = zks := rfl
theorem xS_kt_mk {zN : Nat} {ztg : Nat → Nat} {zhd : Nat → Nat} {zwt : Nat → Int32} {zfb : Nat → Nat} {zE : Nat} {zgn : Nat → Nat} {zks : Nat → Nat} {zkt : Nat → Nat → Nat} {zkh : Nat → Nat → Nat} {zA : Nat} {zqs : Nat → Nat} {zqx : Nat → Nat} {zqy : Nat → Nat} : (xS.mk zN ztg zhd zwt zfb zE zgn zks zkt zkh zA zqs zqx zqy).kt = zkt := rfl
theorem xS_kh_mk {zN : Nat} {ztg : Nat → Nat} {zhd : Nat → Nat} {zwt : Nat → Int32} {zfb : Nat → Nat} {zE : Nat} {zgn : Nat → Nat} {zks : Nat → Nat} {zkt : Nat → Nat → Nat} {zkh : Nat → Nat → Nat} {zA : Nat} {zqs : Nat → Nat} {zqx : Nat → Nat} {zqy : Nat → Nat} : (xS.mk zN ztg zhd zwt zfb zE zgn zks zkt zkh zA zqs zqx zqy).kh = zkh := rfl
theorem xS_A_mk {zN : Nat} {ztg : Nat → Nat} {zhd : Nat → Nat} {zwt : Nat → Int32} {zfb : Nat → Nat} {zE : Nat} {zgn : Nat → Nat} {zks : Nat → Nat} {zkt : Nat → Nat → Nat} {zkh : Nat → Nat → Nat} {zA : Nat} {zqs : Nat → Nat} {zqx : Nat → Nat} {zqy : Nat → Nat} : (xS.mk zN ztg zhd zwt zfb zE zgn zks zkt zkh zA zqs zqx zqy).A = zA := rfl
theorem xS_qs_mk {zN : Nat} {ztg : Nat → Nat} {zhd : Nat → Nat} {zwt : Nat → Int32} {zfb : Nat → Nat} {zE : Nat} {zgn : Nat → Nat} {zks : Nat → Nat} {zkt : Nat → Nat → Nat} {zkh : Nat → Nat → Nat} {zA : Nat} {zqs : Nat → Nat} {zqx : Nat → Nat} {zqy : Nat → Nat} : (xS.mk zN ztg zhd zwt zfb zE zgn zks zkt zkh zA zqs zqx zqy).qs = zqs := rfl
theorem xS_qx_mk {zN : Nat} {ztg : Nat → Nat} {zhd : Nat → Nat} {zwt : Nat → Int32} {zfb : Nat → Nat} {zE : Nat} {zgn : Nat → Nat} {zks : Nat → Nat} {zkt : Nat → Nat → Nat} {zkh : Nat → Nat → Nat} {zA : Nat} {zqs : Nat → Nat} {zqx : Nat → Nat} {zqy : Nat → Nat} : (xS.mk zN ztg zhd zwt zfb zE zgn zks zkt zkh zA zqs zqx zqy).qx = zqx := rfl
theorem xS_qy_mk {zN : Nat} {ztg : Nat → Nat} {zhd : Nat → Nat} {zwt : Nat → Int32} {zfb : Nat → Nat} {zE : Nat} {zgn : Nat → Nat} {zks : Nat → Nat} {zkt : Nat → Nat → Nat} {zkh : Nat → Nat → Nat} {zA : Nat} {zqs : Nat → Nat} {zqx : Nat → Nat} {zqy : Nat → Nat} : (xS.mk zN ztg zhd zwt zfb zE zgn zks zkt zkh zA zqs zqx zqy).qy = zqy := rfl
theorem xS_eta (zz : xS) : xS.mk zz.N zz.tg zz.hd zz.wt zz.fb zz.E zz.gn zz.ks zz.kt zz.kh zz.A zz.qs zz.qx zz.qy = zz := rfl
/-- a drawing: its words, tags and heads -/
def dOk (n : Nat) (tg hd : Nat → Nat) : Prop := (1 ≤ n) ∧ (n ≤ 7) ∧ (tg 0 = 10) ∧ (∀ d, 1 ≤ d → tg d ≤ 9) ∧ (∀ d, n < d → tg d = 0) ∧ (∀ d, hd d ≤ n) ∧ (hd 0 = 0) ∧ (∀ d, n < d → hd d = 0)
theorem dOk.n1 {n : Nat} {tg hd : Nat → Nat} (zz : dOk n tg hd) : 1 ≤ n := zz.1
theorem dOk.n7 {n : Nat} {tg hd : Nat → Nat} (zz : dOk n tg hd) : n ≤ 7 := zz.2.1
theorem dOk.t0 {n : Nat} {tg hd : Nat → Nat} (zz : dOk n tg hd) : tg 0 = 10 := zz.2.2.1
theorem dOk.t9 {n : Nat} {tg hd : Nat → Nat} (zz : dOk n tg hd) : ∀ d, 1 ≤ d → tg d ≤ 9 := zz.2.2.2.1
theorem dOk.tz {n : Nat} {tg hd : Nat → Nat} (zz : dOk n tg hd) : ∀ d, n < d → tg d = 0 := zz.2.2.2.2.1
theorem dOk.hn {n : Nat} {tg hd : Nat → Nat} (zz : dOk n tg hd) : ∀ d, hd d ≤ n := zz.2.2.2.2.2.1
theorem dOk.h0 {n : Nat} {tg hd : Nat → Nat} (zz : dOk n tg hd) : hd 0 = 0 := zz.2.2.2.2.2.2.1
theorem dOk.hz {n : Nat} {tg hd : Nat → Nat} (zz : dOk n tg hd) : ∀ d, n < d → hd d = 0 := zz.2.2.2.2.2.2.2
theorem dOk.mk {n : Nat} {tg hd : Nat → Nat} (zn1 : 1 ≤ n) (zn7 : n ≤ 7) (zt0 : tg 0 = 10) (zt9 : ∀ d, 1 ≤ d → tg d ≤ 9) (ztz : ∀ d, n < d → tg d = 0) (zhn : ∀ d, hd d ≤ n) (zh0 : hd 0 = 0) (zhz : ∀ d, n < d → hd d = 0) : dOk n tg hd := ⟨zn1, zn7, zt0, zt9, ztz, zhn, zh0, zhz⟩
def xOk (σ : xS) : Prop := (dOk σ.N σ.tg σ.hd) ∧ (∀ k, -1000000 ≤ (σ.wt k).toInt ∧ (σ.wt k).toInt ≤ 1000000) ∧ (∀ k, 64 ≤ k → σ.wt k = 0) ∧ (∀ k, σ.fb k ≤ 1) ∧ (∀ k, 64 ≤ k → σ.fb k = 0) ∧ (σ.E ≤ 20) ∧ (∀ j, σ.gn j ≤ 1) ∧ (∀ j, j < σ.E → dOk (σ.ks j) (σ.kt j) (σ.kh j)) ∧ (∀ j, j < σ.E → ∀ x, zit (σ.kh j) 7 x = 0) ∧ (σ.A ≤ 6) ∧ (∀ i, i < σ.A → σ.qs i ≤ 4 ∧ σ.qx i ≤ 3 ∧ σ.qy i ≤ (if σ.qs i = 3 then 9 else 3))
theorem xOk.d {σ : xS} (zz : xOk σ) : dOk σ.N σ.tg σ.hd := zz.1
theorem xOk.w1 {σ : xS} (zz : xOk σ) : ∀ k, -1000000 ≤ (σ.wt k).toInt ∧ (σ.wt k).toInt ≤ 1000000 := zz.2.1
theorem xOk.wz {σ : xS} (zz : xOk σ) : ∀ k, 64 ≤ k → σ.wt k = 0 := zz.2.2.1
theorem xOk.f1 {σ : xS} (zz : xOk σ) : ∀ k, σ.fb k ≤ 1 := zz.2.2.2.1
theorem xOk.fz {σ : xS} (zz : xOk σ) : ∀ k, 64 ≤ k → σ.fb k = 0 := zz.2.2.2.2.1
theorem xOk.E20 {σ : xS} (zz : xOk σ) : σ.E ≤ 20 := zz.2.2.2.2.2.1
theorem xOk.g1 {σ : xS} (zz : xOk σ) : ∀ j, σ.gn j ≤ 1 := zz.2.2.2.2.2.2.1
theorem xOk.kd {σ : xS} (zz : xOk σ) : ∀ j, j < σ.E → dOk (σ.ks j) (σ.kt j) (σ.kh j) := zz.2.2.2.2.2.2.2.1
theorem xOk.ktr {σ : xS} (zz : xOk σ) : ∀ j, j < σ.E → ∀ x, zit (σ.kh j) 7 x = 0 := zz.2.2.2.2.2.2.2.2.1
theorem xOk.A6 {σ : xS} (zz : xOk σ) : σ.A ≤ 6 := zz.2.2.2.2.2.2.2.2.2.1
theorem xOk.q4 {σ : xS} (zz : xOk σ) : ∀ i, i < σ.A → σ.qs i ≤ 4 ∧ σ.qx i ≤ 3 ∧ σ.qy i ≤ (if σ.qs i = 3 then 9 else 3) := zz.2.2.2.2.2.2.2.2.2.2
theorem xOk.mk {σ : xS} (zd : dOk σ.N σ.tg σ.hd) (zw1 : ∀ k, -1000000 ≤ (σ.wt k).toInt ∧ (σ.wt k).toInt ≤ 1000000) (zwz : ∀ k, 64 ≤ k → σ.wt k = 0) (zf1 : ∀ k, σ.fb k ≤ 1) (zfz : ∀ k, 64 ≤ k → σ.fb k = 0) (zE20 : σ.E ≤ 20) (zg1 : ∀ j, σ.gn j ≤ 1) (zkd : ∀ j, j < σ.E → dOk (σ.ks j) (σ.kt j) (σ.kh j)) (zktr : ∀ j, j < σ.E → ∀ x, zit (σ.kh j) 7 x = 0) (zA6 : σ.A ≤ 6) (zq4 : ∀ i, i < σ.A → σ.qs i ≤ 4 ∧ σ.qx i ≤ 3 ∧ σ.qy i ≤ (if σ.qs i = 3 then 9 else 3)) : xOk σ := ⟨zd, zw1, zwz, zf1, zfz, zE20, zg1, zkd, zktr, zA6, zq4⟩
/-- how many words of a kept one have tag b and a head of tag a on that side -/
def kcn (n : Nat) (tg hd : Nat → Nat) (a b sd : Nat) : Nat := zcnt (fun d => decide (tg (hd d) = a ∧ tg d = b ∧ (if hd d < d then 0 else 1) = sd)) n 1
def kbn (n : Nat) (tg : Nat → Nat) (b : Nat) : Nat := zcnt (fun d => decide (tg d = b)) n 1
/-- over the kept ones that are not gone: c of them from j on -/
def ksum (gn : Nat → Nat) (g : Nat → Nat) : Nat → Nat → Nat
  | 0, _ => 0
  | c + 1, j => (if gn j = 0 then g j else 0) + ksum gn g c (j + 1)
def xcn (σ : xS) (a b sd : Nat) : Nat := ksum σ.gn (fun j => kcn (σ.ks j) (σ.kt j) (σ.kh j) a b sd) σ.E 0
def xtn (σ : xS) (b : Nat) : Nat := ksum σ.gn (fun j => kbn (σ.ks j) (σ.kt j) b) σ.E 0
def xRC (σ : xS) (C : xC) : Prop := (C.N = nI σ.N) ∧ (C.tg = fun d => nI (σ.tg d)) ∧ (C.hd = fun d => nI (σ.hd d)) ∧ (C.wt = σ.wt) ∧ (C.fb = fun k => nI (σ.fb k)) ∧ (rok C.R) ∧ (C.E = nI σ.E) ∧ (C.K = σ.E) ∧ (∀ j, j < σ.E → C.kr j = if σ.gn j = 0 then some (303 + 3 * j) else none) ∧ (∀ j, j < σ.E → C.kd j = (nI (σ.ks j), (fun d => nI (σ.kt j d)), (fun d => nI (σ.kh j d)))) ∧ (∀ a b sd, a ≤ 10 → b ≤ 9 → sd ≤ 1 → C.ct ((a * 10 + b) * 2 + sd) = nI (xcn σ a b sd)) ∧ (∀ b, b ≤ 9 → C.tt b = nI (xtn σ b)) ∧ (C.A = nI σ.A) ∧ (∀ i, i < σ.A → C.qs i = nI (σ.qs i) ∧ C.qx i = nI (σ.qx i) ∧ C.qy i = nI (σ.qy i))
theorem xRC.N {σ : xS} {C : xC} (zz : xRC σ C) : C.N = nI σ.N := zz.1
theorem xRC.tg {σ : xS} {C : xC} (zz : xRC σ C) : C.tg = fun d => nI (σ.tg d) := zz.2.1
theorem xRC.hd {σ : xS} {C : xC} (zz : xRC σ C) : C.hd = fun d => nI (σ.hd d) := zz.2.2.1
theorem xRC.wt {σ : xS} {C : xC} (zz : xRC σ C) : C.wt = σ.wt := zz.2.2.2.1
theorem xRC.fb {σ : xS} {C : xC} (zz : xRC σ C) : C.fb = fun k => nI (σ.fb k) := zz.2.2.2.2.1
theorem xRC.R {σ : xS} {C : xC} (zz : xRC σ C) : rok C.R := zz.2.2.2.2.2.1
theorem xRC.E {σ : xS} {C : xC} (zz : xRC σ C) : C.E = nI σ.E := zz.2.2.2.2.2.2.1
theorem xRC.K {σ : xS} {C : xC} (zz : xRC σ C) : C.K = σ.E := zz.2.2.2.2.2.2.2.1
theorem xRC.kr {σ : xS} {C : xC} (zz : xRC σ C) : ∀ j, j < σ.E → C.kr j = if σ.gn j = 0 then some (303 + 3 * j) else none := zz.2.2.2.2.2.2.2.2.1
theorem xRC.kd {σ : xS} {C : xC} (zz : xRC σ C) : ∀ j, j < σ.E → C.kd j = (nI (σ.ks j), (fun d => nI (σ.kt j d)), (fun d => nI (σ.kh j d))) := zz.2.2.2.2.2.2.2.2.2.1
theorem xRC.ct {σ : xS} {C : xC} (zz : xRC σ C) : ∀ a b sd, a ≤ 10 → b ≤ 9 → sd ≤ 1 → C.ct ((a * 10 + b) * 2 + sd) = nI (xcn σ a b sd) := zz.2.2.2.2.2.2.2.2.2.2.1
theorem xRC.tt {σ : xS} {C : xC} (zz : xRC σ C) : ∀ b, b ≤ 9 → C.tt b = nI (xtn σ b) := zz.2.2.2.2.2.2.2.2.2.2.2.1
theorem xRC.A {σ : xS} {C : xC} (zz : xRC σ C) : C.A = nI σ.A := zz.2.2.2.2.2.2.2.2.2.2.2.2.1
theorem xRC.q {σ : xS} {C : xC} (zz : xRC σ C) : ∀ i, i < σ.A → C.qs i = nI (σ.qs i) ∧ C.qx i = nI (σ.qx i) ∧ C.qy i = nI (σ.qy i) := zz.2.2.2.2.2.2.2.2.2.2.2.2.2
theorem xRC.mk {σ : xS} {C : xC} (zN : C.N = nI σ.N) (ztg : C.tg = fun d => nI (σ.tg d)) (zhd : C.hd = fun d => nI (σ.hd d)) (zwt : C.wt = σ.wt) (zfb : C.fb = fun k => nI (σ.fb k)) (zR : rok C.R) (zE : C.E = nI σ.E) (zK : C.K = σ.E) (zkr : ∀ j, j < σ.E → C.kr j = if σ.gn j = 0 then some (303 + 3 * j) else none) (zkd : ∀ j, j < σ.E → C.kd j = (nI (σ.ks j), (fun d => nI (σ.kt j d)), (fun d => nI (σ.kh j d)))) (zct : ∀ a b sd, a ≤ 10 → b ≤ 9 → sd ≤ 1 → C.ct ((a * 10 + b) * 2 + sd) = nI (xcn σ a b sd)) (ztt : ∀ b, b ≤ 9 → C.tt b = nI (xtn σ b)) (zA : C.A = nI σ.A) (zq : ∀ i, i < σ.A → C.qs i = nI (σ.qs i) ∧ C.qx i = nI (σ.qx i) ∧ C.qy i = nI (σ.qy i)) : xRC σ C := ⟨zN, ztg, zhd, zwt, zfb, zR, zE, zK, zkr, zkd, zct, ztt, zA, zq⟩
/-- what is known of the trees, as a function of words, weights and what is forbidden -/
def xCa (N : Nat) (wt : Nat → Int32) (fb : Nat → Nat) (mn : Nat → Int64) (rk rs rh : Nat → Int32) : Prop := True
def xRM (ca : Nat → (Nat → Int32) → (Nat → Nat) → (Nat → Int64) → (Nat → Int32) → (Nat → Int32) → (Nat → Int32) → Prop) (σ : xS) (M : xM) : Prop := (M.n = nI σ.N) ∧ (M.tg = fun d => if d = 0 then 0 else nI (σ.tg d)) ∧ (M.hd = fun d => nI (σ.hd d)) ∧ (M.wt = σ.wt) ∧ (M.fb = fun k => nI (σ.fb k)) ∧ (M.kn = 0 ∨ (M.kn = 1 ∧ ca σ.N σ.wt σ.fb M.mn M.rk M.rs M.rh)) ∧ (M.E = nI σ.E) ∧ (∀ j, j < σ.E → M.gn j = nI (σ.gn j) ∧ M.ks j = nI (σ.ks j) ∧ ∀ d, 1 ≤ d → d < 8 → M.kt (8 * j + d) = nI (σ.kt j d) ∧ M.kh (8 * j + d) = nI (σ.kh j d)) ∧ (∀ j, σ.E ≤ j → j < 20 → M.gn j = 0 ∧ ∀ d, 1 ≤ d → d < 8 → M.kt (8 * j + d) = 0 ∧ M.kh (8 * j + d) = 0) ∧ (M.A = nI σ.A) ∧ (∀ i, i < σ.A → M.qs i = nI (σ.qs i) ∧ M.qx i = nI (σ.qx i) ∧ M.qy i = nI (σ.qy i)) ∧ (xrz M.rw)
theorem xRM.N {ca : Nat → (Nat → Int32) → (Nat → Nat) → (Nat → Int64) → (Nat → Int32) → (Nat → Int32) → (Nat → Int32) → Prop} {σ : xS} {M : xM} (zz : xRM ca σ M) : M.n = nI σ.N := zz.1
theorem xRM.tg {ca : Nat → (Nat → Int32) → (Nat → Nat) → (Nat → Int64) → (Nat → Int32) → (Nat → Int32) → (Nat → Int32) → Prop} {σ : xS} {M : xM} (zz : xRM ca σ M) : M.tg = fun d => if d = 0 then 0 else nI (σ.tg d) := zz.2.1
theorem xRM.hd {ca : Nat → (Nat → Int32) → (Nat → Nat) → (Nat → Int64) → (Nat → Int32) → (Nat → Int32) → (Nat → Int32) → Prop} {σ : xS} {M : xM} (zz : xRM ca σ M) : M.hd = fun d => nI (σ.hd d) := zz.2.2.1
theorem xRM.wt {ca : Nat → (Nat → Int32) → (Nat → Nat) → (Nat → Int64) → (Nat → Int32) → (Nat → Int32) → (Nat → Int32) → Prop} {σ : xS} {M : xM} (zz : xRM ca σ M) : M.wt = σ.wt := zz.2.2.2.1
theorem xRM.fb {ca : Nat → (Nat → Int32) → (Nat → Nat) → (Nat → Int64) → (Nat → Int32) → (Nat → Int32) → (Nat → Int32) → Prop} {σ : xS} {M : xM} (zz : xRM ca σ M) : M.fb = fun k => nI (σ.fb k) := zz.2.2.2.2.1
theorem xRM.kn {ca : Nat → (Nat → Int32) → (Nat → Nat) → (Nat → Int64) → (Nat → Int32) → (Nat → Int32) → (Nat → Int32) → Prop} {σ : xS} {M : xM} (zz : xRM ca σ M) : M.kn = 0 ∨ (M.kn = 1 ∧ ca σ.N σ.wt σ.fb M.mn M.rk M.rs M.rh) := zz.2.2.2.2.2.1
theorem xRM.E {ca : Nat → (Nat → Int32) → (Nat → Nat) → (Nat → Int64) → (Nat → Int32) → (Nat → Int32) → (Nat → Int32) → Prop} {σ : xS} {M : xM} (zz : xRM ca σ M) : M.E = nI σ.E := zz.2.2.2.2.2.2.1
theorem xRM.k {ca : Nat → (Nat → Int32) → (Nat → Nat) → (Nat → Int64) → (Nat → Int32) → (Nat → Int32) → (Nat → Int32) → Prop} {σ : xS} {M : xM} (zz : xRM ca σ M) : ∀ j, j < σ.E → M.gn j = nI (σ.gn j) ∧ M.ks j = nI (σ.ks j) ∧ ∀ d, 1 ≤ d → d < 8 → M.kt (8 * j + d) = nI (σ.kt j d) ∧ M.kh (8 * j + d) = nI (σ.kh j d) := zz.2.2.2.2.2.2.2.1
theorem xRM.kz {ca : Nat → (Nat → Int32) → (Nat → Nat) → (Nat → Int64) → (Nat → Int32) → (Nat → Int32) → (Nat → Int32) → Prop} {σ : xS} {M : xM} (zz : xRM ca σ M) : ∀ j, σ.E ≤ j → j < 20 → M.gn j = 0 ∧ ∀ d, 1 ≤ d → d < 8 → M.kt (8 * j + d) = 0 ∧ M.kh (8 * j + d) = 0 := zz.2.2.2.2.2.2.2.2.1
theorem xRM.A {ca : Nat → (Nat → Int32) → (Nat → Nat) → (Nat → Int64) → (Nat → Int32) → (Nat → Int32) → (Nat → Int32) → Prop} {σ : xS} {M : xM} (zz : xRM ca σ M) : M.A = nI σ.A := zz.2.2.2.2.2.2.2.2.2.1
theorem xRM.q {ca : Nat → (Nat → Int32) → (Nat → Nat) → (Nat → Int64) → (Nat → Int32) → (Nat → Int32) → (Nat → Int32) → Prop} {σ : xS} {M : xM} (zz : xRM ca σ M) : ∀ i, i < σ.A → M.qs i = nI (σ.qs i) ∧ M.qx i = nI (σ.qx i) ∧ M.qy i = nI (σ.qy i) := zz.2.2.2.2.2.2.2.2.2.2.1
theorem xRM.rw {ca : Nat → (Nat → Int32) → (Nat → Nat) → (Nat → Int64) → (Nat → Int32) → (Nat → Int32) → (Nat → Int32) → Prop} {σ : xS} {M : xM} (zz : xRM ca σ M) : xrz M.rw := zz.2.2.2.2.2.2.2.2.2.2.2
theorem xRM.mk {ca : Nat → (Nat → Int32) → (Nat → Nat) → (Nat → Int64) → (Nat → Int32) → (Nat → Int32) → (Nat → Int32) → Prop} {σ : xS} {M : xM} (zN : M.n = nI σ.N) (ztg : M.tg = fun d => if d = 0 then 0 else nI (σ.tg d)) (zhd : M.hd = fun d => nI (σ.hd d)) (zwt : M.wt = σ.wt) (zfb : M.fb = fun k => nI (σ.fb k)) (zkn : M.kn = 0 ∨ (M.kn = 1 ∧ ca σ.N σ.wt σ.fb M.mn M.rk M.rs M.rh)) (zE : M.E = nI σ.E) (zk : ∀ j, j < σ.E → M.gn j = nI (σ.gn j) ∧ M.ks j = nI (σ.ks j) ∧ ∀ d, 1 ≤ d → d < 8 → M.kt (8 * j + d) = nI (σ.kt j d) ∧ M.kh (8 * j + d) = nI (σ.kh j d)) (zkz : ∀ j, σ.E ≤ j → j < 20 → M.gn j = 0 ∧ ∀ d, 1 ≤ d → d < 8 → M.kt (8 * j + d) = 0 ∧ M.kh (8 * j + d) = 0) (zA : M.A = nI σ.A) (zq : ∀ i, i < σ.A → M.qs i = nI (σ.qs i) ∧ M.qx i = nI (σ.qx i) ∧ M.qy i = nI (σ.qy i)) (zrw : xrz M.rw) : xRM ca σ M := ⟨zN, ztg, zhd, zwt, zfb, zkn, zE, zk, zkz, zA, zq, zrw⟩
