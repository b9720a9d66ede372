/-! long runs in pieces, quicker -/
section SGF
variable {T : pm_Tab} {B : Nat → ac} {sz : Nat} {F : fr_F}
noncomputable def fq_aLle (as bs : List (Option av)) : Bool := List.rec (motive := fun _ => List (Option av) → Bool) (fun bs => List.rec (motive := fun _ => Bool) true (fun _ _ _ => false) bs) (fun a _ ih bs => List.rec (motive := fun _ => Bool) false (fun b t _ => Bool.rec (motive := fun _ => Bool) false (ih t) (Option.rec (motive := fun _ => Bool) true (fun b => Option.rec (motive := fun _ => Bool) false (fun a => fq_avle a b) a) b)) bs) as bs
theorem fq_aLle_eq : ∀ as bs : List (Option av), fq_aLle as bs = aL_le as bs
  | [], [] => rfl
  | [], _ :: _ => rfl
  | _ :: _, [] => rfl
  | a :: r, b :: t => by
    have h := fq_aLle_eq r t
    unfold aL_le
    rw [← h]
    show Bool.rec (motive := fun _ => Bool) false (fq_aLle r t) (Option.rec (motive := fun _ => Bool) true (fun b => Option.rec (motive := fun _ => Bool) false (fun a => fq_avle a b) a) b) = _
    cases b with
    | none => cases a <;> rfl
    | some b =>
      cases a with
      | none => rfl
      | some a =>
        show Bool.rec (motive := fun _ => Bool) false (fq_aLle r t) (fq_avle a b) = (av_le a b && fq_aLle r t)
        rw [fq_avle_eq]
        cases av_le a b <;> rfl
noncomputable def fq_astle (B : Nat → ac) (s t : ast) : Bool := fq_and (Nat.beq s.1 t.1) (fq_and (fq_aLle s.2.1 t.2.1) (fq_and (fq_alle s.2.2.1 t.2.2.1) (fq_ahle B s.2.2.2 t.2.2.2)))
theorem fq_astle_eq (s t : ast) : fq_astle B s t = ast_le B s t := by
  unfold fq_astle ast_le
  rw [fq_and_eq, fq_and_eq, fq_and_eq, fq_aLle_eq, fq_alle_eq, fq_ahle_eq]
noncomputable def fq_sg (Z : List ast) (K : kn) (T : pm_Tab) (B : Nat → ac) (sz : Nat) (F : fr_F) (J : Nat → ast → ast → Bool) (jo : Nat → ar → ar → Bool) (P : Nat → Nat → List sp) (n : Nat) : Nat → Nat → Nat → List ast → List ar → Option (List ar) := Nat.rec (motive := fun _ => Nat → Nat → Nat → List ast → List ar → Option (List ar)) (fun _ _ _ _ _ => none) (fun n ih fr lo k W R => List.rec (motive := fun _ => Option (List ar)) (some R) (fun s W _ => Bool.rec (motive := fun _ => Option (List ar)) (Option.rec (motive := fun _ => Option (List ar)) none (fun p => fq_k B J jo ih fr lo k W R p) (fq_each (fq_one T B sz F (fq_go K T (fq_run K T B sz F J jo P n)) fr lo k) (fq_cut B sz s (fq_n s.1 (P k))))) (fq_t ih fr lo k W R) (fq_any (fun z => fq_astle B s z) Z)) W) n
theorem fq_sg_eq (Z : List ast) (K : kn) (T : pm_Tab) (B : Nat → ac) (sz : Nat) (F : fr_F) (J : Nat → ast → ast → Bool) (jo : Nat → ar → ar → Bool) (P : Nat → Nat → List sp) : ∀ n : Nat, fq_sg Z K T B sz F J jo P n = sg_run Z K T B sz F J jo P n
  | 0 => by
    funext fr lo k W R
    unfold sg_run
    rfl
  | n + 1 => by
    have h := fq_sg_eq Z K T B sz F J jo P n
    funext fr lo k W R
    unfold sg_run
    show List.rec (motive := fun _ => Option (List ar)) (some R) (fun s W _ => Bool.rec (motive := fun _ => Option (List ar)) (Option.rec (motive := fun _ => Option (List ar)) none (fun p => fq_k B J jo (fq_sg Z K T B sz F J jo P n) fr lo k W R p) (fq_each (fq_one T B sz F (fq_go K T (fq_run K T B sz F J jo P n)) fr lo k) (fq_cut B sz s (fq_n s.1 (P k))))) (fq_t (fq_sg Z K T B sz F J jo P n) fr lo k W R) (fq_any (fun z => fq_astle B s z) Z)) W = _
    cases W with
    | nil => rfl
    | cons s W =>
      dsimp only
      have hf : fq_one T B sz F (fq_go K T (fq_run K T B sz F J jo P n)) fr lo k = cx_one T B sz F (fun fr lo t as o => match K t as o with
          | some (Rc, Fr, Lo) => if Fr ≤ fr ∧ Lo ≤ lo then some Rc else none
          | none => cx_run K T B sz F J jo P n fr lo t [(0, aa_l0 as (pm_max T t), [], o)] []) fr lo k := by
        funext s
        rw [fq_one_eq, fq_go_eq (fq_run_eq K T B sz F J jo P n)]
        rfl
      have hz : (fun z => fq_astle B s z) = fun z => ast_le B s z := funext fun z => fq_astle_eq s z
      rw [hf, fq_each_eq, fq_cut_eq, fq_n_eq, h, fq_any_eq, hz]
      cases Z.any (fun z => ast_le B s z) with
      | true => rfl
      | false =>
        dsimp only [cond]
        cases cx_each (cx_one T B sz F (fun fr lo t as o => match K t as o with
            | some (Rc, Fr, Lo) => if Fr ≤ fr ∧ Lo ≤ lo then some Rc else none
            | none => cx_run K T B sz F J jo P n fr lo t [(0, aa_l0 as (pm_max T t), [], o)] []) fr lo k) (sp_all B sz (P k s.1) [s]) with
        | none => rfl
        | some p =>
          obtain ⟨A, ss⟩ := p
          exact fq_k_eq J jo _ fr lo k W R A ss
variable {K K' : kn} {J : Nat → ast → ast → Bool} {jo : Nat → ar → ar → Bool} {P : Nat → Nat → List sp} {n : Nat} {c : con} {l : List con} {Z W : List ast}
noncomputable def fq_fin2 (B : Nat → ac) (c : con) (R : Option (List ar)) : Bool := Option.rec (motive := fun _ => Bool) false (fun R => fq_all (fun r => fq_and (c.2.2.2.1.any (fun a => ao_le r.1 a)) (fq_ahle B r.2 c.2.2.2.2.1)) R) R
theorem fq_fin2_eq (c : con) (R : Option (List ar)) : fq_fin2 B c R = (match R with
    | some R => R.all (fun r => c.2.2.2.1.any (fun a => ao_le r.1 a) && ah_le B r.2 c.2.2.2.2.1)
    | none => false) := by
  cases R with
  | none => rfl
  | some R =>
    show fq_all (fun r => fq_and (c.2.2.2.1.any (fun a => ao_le r.1 a)) (fq_ahle B r.2 c.2.2.2.2.1)) R = _
    rw [fq_all_eq]
    have h : (fun r : ar => fq_and (c.2.2.2.1.any (fun a => ao_le r.1 a)) (fq_ahle B r.2 c.2.2.2.2.1)) = fun r => c.2.2.2.1.any (fun a => ao_le r.1 a) && ah_le B r.2 c.2.2.2.2.1 := funext fun r => by
      rw [fq_and_eq, fq_ahle_eq]
    rw [h]
noncomputable def fq_seg (Z : List ast) (K : kn) (T : pm_Tab) (B : Nat → ac) (sz : Nat) (F : fr_F) (J : Nat → ast → ast → Bool) (jo : Nat → ar → ar → Bool) (P : Nat → Nat → List sp) (n : Nat) (c : con) (W : List ast) : Bool := fq_fin2 B c (fq_sg Z K T B sz F J jo P n c.2.2.2.2.2.1 c.2.2.2.2.2.2.1 c.1 W [])
variable {J' : Nat → ast → ast → Bool} {jo' : Nat → ar → ar → Bool}
theorem fq_seg_eq (hK : K = K') (hJ : J = J') (ho : jo = jo') (h : fq_seg Z K T B sz F J jo P n c W = true) : seg_chk Z K' T B sz F J' jo' P n c W = true := by
  subst hK
  subst hJ
  subst ho
  unfold fq_seg at h
  rw [fq_fin2_eq, fq_sg_eq] at h
  exact h
theorem fq_seg1 (hJ : J = J') (ho : jo = jo') (h : fq_seg Z (fq_kl B F l) T B sz F J jo P n c W = true) : seg_chk Z (kl B F l) T B sz F J' jo' P n c W = true := fq_seg_eq (fq_kl_eq l) hJ ho h
theorem fq_seg2 {F' : fr_F} (hJ : J = J') (ho : jo = jo') (h : fq_seg Z (fq_or (fq_kl B F' l) K) T B sz F J jo P n c W = true) : seg_chk Z (kn_or (kl B F' l) K) T B sz F J' jo' P n c W = true := fq_seg_eq (fq_or_eq (fq_kl_eq l)) hJ ho h
theorem fq_seg3 (hJ : J = J') (ho : jo = jo') (h : fq_seg Z K T B sz F J jo P n c W = true) : seg_chk Z K T B sz F J' jo' P n c W = true := fq_seg_eq rfl hJ ho h
end SGF
