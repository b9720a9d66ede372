section MH00listsx0
/-! lists by place -/
def pm_nth {α : Type} : List α → Nat → Option α
  | [], _ => none
  | a :: _, 0 => some a
  | _ :: r, n + 1 => pm_nth r n
def pm_fd {α : Type} : List (Nat × α) → Nat → Option α
  | [], _ => none
  | e :: r, pc => cond (Nat.beq e.1 pc) (some e.2) (pm_fd r pc)
def pm_ch {α : Type} (cs : List (List (Nat × α))) (pc : Nat) : Option α := match pm_nth cs (pc / 16) with
  | some c => pm_fd c pc
  | none => none
end MH00listsx0
section MH00listsx1
/-! the i-th of a long list, by the list of its every 32nd tail -/
noncomputable def lq_nth {α : Type} (n : Nat) : List α → Option α := Nat.rec (motive := fun _ => List α → Option α) (fun l => List.rec (motive := fun _ => Option α) none (fun a _ _ => some a) l) (fun _ ih l => List.rec (motive := fun _ => Option α) none (fun _ t _ => ih t) l) n
noncomputable def lq_dr {α : Type} (n : Nat) : List α → List α := Nat.rec (motive := fun _ => List α → List α) (fun l => l) (fun _ ih l => List.rec (motive := fun _ => List α) [] (fun _ t _ => ih t) l) n
noncomputable def lq_ch {α : Type} (n : Nat) : List α → List (List α) := Nat.rec (motive := fun _ => List α → List (List α)) (fun _ => []) (fun _ ih l => l :: ih (lq_dr 32 l)) n
noncomputable def lq_at {α : Type} (T : List α) (i : Nat) : Option α := Option.rec (motive := fun _ => Option α) none (fun s => lq_nth (i % 32) s) (lq_nth (i / 32) (lq_ch 64 T))
theorem lq_nthx {α : Type} : ∀ (n : Nat) (l : List α), lq_nth n l = l[n]?
  | 0, [] => rfl
  | 0, a :: t => rfl
  | n + 1, [] => rfl
  | n + 1, a :: t => by rw [List.getElem?_cons_succ]; exact lq_nthx n t
theorem lq_drx {α : Type} : ∀ (n : Nat) (l : List α), lq_dr n l = l.drop n
  | 0, l => rfl
  | n + 1, [] => rfl
  | n + 1, c :: t => lq_drx n t
theorem lq_nil {α : Type} (k : Nat) : lq_nth k ([] : List α) = none := by cases k <;> rfl
theorem lq_chx {α : Type} : ∀ (m k : Nat) (l s : List α), lq_nth k (lq_ch m l) = some s → s = l.drop (32 * k)
  | 0, k, l, s, h => by
    rw [show lq_ch 0 l = [] from rfl, lq_nil] at h; cases h
  | m + 1, 0, l, s, h => by
    have h : some l = some s := h
    cases h; rfl
  | m + 1, k + 1, l, s, h => by
    have h : lq_nth k (lq_ch m (lq_dr 32 l)) = some s := h
    rw [lq_chx m k _ s h, lq_drx, List.drop_drop, show 32 + 32 * k = 32 * (k + 1) by omega]
theorem lq_atx {α : Type} {T : List α} {i : Nat} {w : α} (h : lq_at T i = some w) : T[i]? = some w := by
  unfold lq_at at h
  cases hc : lq_nth (i / 32) (lq_ch 64 T) with
  | none => rw [hc] at h; exact absurd (show (none : Option α) = some w from h) (by simp)
  | some s =>
    rw [hc] at h
    have h : lq_nth (i % 32) s = some w := h
    rw [lq_chx 64 _ T s hc, lq_nthx, List.getElem?_drop, show 32 * (i / 32) + i % 32 = i by omega] at h
    exact h
end MH00listsx1
section MH00listsx2
-- ===== PART A: goes FIRST, ahead of the names: the tables' words, and 'selects' of the private methods out of them =====
/-- a private method of a class that the tables say can be made, by its rows of tables_1 -/
def lw_okq (q : MethodName × Nat) : Prop := (q.1.cls ≠ "java/lang/invoke/MethodHandle" ∧ q.1.cls ≠ "java/lang/invoke/VarHandle") ∧ Cond.instantiable q.1.cls q.2 ∈ tables_1 ∧ Cond.privateMethod q.1 ∈ tables_1 ∧ Cond.instanceMethod q.1 ∈ tables_1
noncomputable def lw_ck (e : (MethodName × Nat) × Nat × Nat × Nat) : Bool := (decide (e.1.1.cls ≠ "java/lang/invoke/MethodHandle") && decide (e.1.1.cls ≠ "java/lang/invoke/VarHandle")) && (decide (lq_at tables_1 e.2.1 = some (.instantiable e.1.1.cls e.1.2)) && (decide (lq_at tables_1 e.2.2.1 = some (.privateMethod e.1.1)) && decide (lq_at tables_1 e.2.2.2 = some (.instanceMethod e.1.1))))
theorem lw_cko {e : (MethodName × Nat) × Nat × Nat × Nat} (h : lw_ck e = true) : lw_okq e.1 := by
  unfold lw_ck at h
  obtain ⟨h1, h2⟩ := Bool.and_eq_true_iff.mp h
  obtain ⟨a, b⟩ := Bool.and_eq_true_iff.mp h1
  obtain ⟨c, h3⟩ := Bool.and_eq_true_iff.mp h2
  obtain ⟨d, e2⟩ := Bool.and_eq_true_iff.mp h3
  exact ⟨⟨of_decide_eq_true a, of_decide_eq_true b⟩, List.mem_of_getElem? (lq_atx (of_decide_eq_true c)), List.mem_of_getElem? (lq_atx (of_decide_eq_true d)), List.mem_of_getElem? (lq_atx (of_decide_eq_true e2))⟩
theorem lw_all {l : List ((MethodName × Nat) × Nat × Nat × Nat)} (h : l.all lw_ck = true) : ∀ q ∈ l.map (fun e => e.1), lw_okq q := by
  intro q hq
  obtain ⟨e, he, e2⟩ := List.mem_map.mp hq
  rw [← e2]
  exact lw_cko (List.all_eq_true.mp h e he)
def lw_privs_1 : List (MethodName × Nat) := [(⟨"GiftsOfCourts$Rule", "beFirstRule", "()V"⟩, 6), (⟨"GiftsOfCourts$Rule", "emit", "(I)V"⟩, 6), (⟨"GiftsOfCourts", "readCourts", "()I"⟩, 14), (⟨"GiftsOfCourts", "settleIn", "(I)V"⟩, 14), (⟨"GiftsOfCourts", "forgetStates", "()V"⟩, 14), (⟨"GiftsOfCourts", "readGifts", "()I"⟩, 14), (⟨"GiftsOfCourts", "readGift", "(II)I"⟩, 14), (⟨"GiftsOfCourts$Rule", "readLevel", "(II)Z"⟩, 6), (⟨"GiftsOfCourts$Rule", "readSigned", "(I)Z"⟩, 6), (⟨"GiftsOfCourts$Rule", "nextSign", "()I"⟩, 6), (⟨"GiftsOfCourts$Rule", "readThing", "(I)Z"⟩, 6), (⟨"GiftsOfCourts$Rule", "readNumber", "()V"⟩, 6), (⟨"GiftsOfCourts", "sendRefusal", "(II)I"⟩, 14), (⟨"GiftsOfCourts$Past", "slotOf", "(I)I"⟩, 3), (⟨"GiftsOfCourts$Rule", "push", "(I)V"⟩, 6), (⟨"GiftsOfCourts$Rule", "pop", "()I"⟩, 6)]
theorem lw_r1 : ∀ q ∈ lw_privs_1, lw_okq q := lw_all (l := [((⟨"GiftsOfCourts$Rule", "beFirstRule", "()V"⟩, 6), 180, 186, 187), ((⟨"GiftsOfCourts$Rule", "emit", "(I)V"⟩, 6), 180, 190, 191), ((⟨"GiftsOfCourts", "readCourts", "()I"⟩, 14), 25, 360, 361), ((⟨"GiftsOfCourts", "settleIn", "(I)V"⟩, 14), 25, 377, 378), ((⟨"GiftsOfCourts", "forgetStates", "()V"⟩, 14), 25, 384, 385), ((⟨"GiftsOfCourts", "readGifts", "()I"⟩, 14), 25, 396, 397), ((⟨"GiftsOfCourts", "readGift", "(II)I"⟩, 14), 25, 400, 401), ((⟨"GiftsOfCourts$Rule", "readLevel", "(II)Z"⟩, 6), 180, 420, 421), ((⟨"GiftsOfCourts$Rule", "readSigned", "(I)Z"⟩, 6), 180, 424, 425), ((⟨"GiftsOfCourts$Rule", "nextSign", "()I"⟩, 6), 180, 428, 429), ((⟨"GiftsOfCourts$Rule", "readThing", "(I)Z"⟩, 6), 180, 433, 434), ((⟨"GiftsOfCourts$Rule", "readNumber", "()V"⟩, 6), 180, 437, 438), ((⟨"GiftsOfCourts", "sendRefusal", "(II)I"⟩, 14), 25, 481, 482), ((⟨"GiftsOfCourts$Past", "slotOf", "(I)I"⟩, 3), 160, 497, 498), ((⟨"GiftsOfCourts$Rule", "push", "(I)V"⟩, 6), 180, 534, 535), ((⟨"GiftsOfCourts$Rule", "pop", "()I"⟩, 6), 180, 538, 539)]) (by decide +kernel)
def lw_privs_2 : List (MethodName × Nat) := [(⟨"GiftsOfCourts", "passMonths", "(I)V"⟩, 14), (⟨"GiftsOfCourts$Realm", "passMonthAt", "(LGiftsOfCourts$State;I)V"⟩, 9), (⟨"GiftsOfCourts", "isEnvoyRefused", "(III)Z"⟩, 14), (⟨"GiftsOfCourts", "hearEnvoy", "(III)V"⟩, 14), (⟨"GiftsOfCourts", "forgiveRefusal", "(II)I"⟩, 14), (⟨"GiftsOfCourts", "yearFault", "()I"⟩, 14), (⟨"GiftsOfCourts", "doAct", "(I)Z"⟩, 14), (⟨"GiftsOfCourts", "actSend", "(II)Z"⟩, 14), (⟨"GiftsOfCourts", "actForgive", "(II)Z"⟩, 14), (⟨"GiftsOfCourts", "actEnvoy", "(III)Z"⟩, 14), (⟨"GiftsOfCourts$Wooing", "goOn", "(IIIII)V"⟩, 8), (⟨"GiftsOfCourts", "swapGain", "(II)I"⟩, 14), (⟨"GiftsOfCourts$Roads", "shorten", "(I)V"⟩, 3), (⟨"GiftsOfCourts$Roads", "firstNext", "(I)I"⟩, 3), (⟨"GiftsOfCourts$Roads", "goOn", "(IIII)V"⟩, 3), (⟨"GiftsOfCourts", "tellFraction", "(JJ)V"⟩, 14)]
theorem lw_r2 : ∀ q ∈ lw_privs_2, lw_okq q := lw_all (l := [((⟨"GiftsOfCourts", "passMonths", "(I)V"⟩, 14), 25, 582, 583), ((⟨"GiftsOfCourts$Realm", "passMonthAt", "(LGiftsOfCourts$State;I)V"⟩, 9), 65, 590, 591), ((⟨"GiftsOfCourts", "isEnvoyRefused", "(III)Z"⟩, 14), 25, 603, 604), ((⟨"GiftsOfCourts", "hearEnvoy", "(III)V"⟩, 14), 25, 607, 608), ((⟨"GiftsOfCourts", "forgiveRefusal", "(II)I"⟩, 14), 25, 615, 616), ((⟨"GiftsOfCourts", "yearFault", "()I"⟩, 14), 25, 623, 624), ((⟨"GiftsOfCourts", "doAct", "(I)Z"⟩, 14), 25, 631, 632), ((⟨"GiftsOfCourts", "actSend", "(II)Z"⟩, 14), 25, 635, 636), ((⟨"GiftsOfCourts", "actForgive", "(II)Z"⟩, 14), 25, 639, 640), ((⟨"GiftsOfCourts", "actEnvoy", "(III)Z"⟩, 14), 25, 643, 644), ((⟨"GiftsOfCourts$Wooing", "goOn", "(IIIII)V"⟩, 8), 249, 683, 684), ((⟨"GiftsOfCourts", "swapGain", "(II)I"⟩, 14), 25, 709, 710), ((⟨"GiftsOfCourts$Roads", "shorten", "(I)V"⟩, 3), 213, 721, 722), ((⟨"GiftsOfCourts$Roads", "firstNext", "(I)I"⟩, 3), 213, 733, 734), ((⟨"GiftsOfCourts$Roads", "goOn", "(IIII)V"⟩, 3), 213, 745, 746), ((⟨"GiftsOfCourts", "tellFraction", "(JJ)V"⟩, 14), 25, 757, 758)]) (by decide +kernel)
def lw_privs_3 : List (MethodName × Nat) := [(⟨"GiftsOfCourts$Debts", "closes", "(LGiftsOfCourts$State;III)Z"⟩, 4), (⟨"GiftsOfCourts", "mostEsteemedBut", "(I)I"⟩, 14), (⟨"GiftsOfCourts", "isLeague", "(I)Z"⟩, 14), (⟨"GiftsOfCourts$Clues", "fitsAll", "(LGiftsOfCourts$State;I)Z"⟩, 4), (⟨"GiftsOfCourts$Clues", "fitsOne", "(LGiftsOfCourts$State;III)Z"⟩, 4), (⟨"GiftsOfCourts", "worthAtHome", "(LGiftsOfCourts$Rule;)I"⟩, 14), (⟨"GiftsOfCourts", "tryDelivery", "(II)Z"⟩, 14), (⟨"java/lang/Throwable", "fillInStackTrace", "(I)Ljava/lang/Throwable;"⟩, 6), (⟨"GiftsOfCourtsModel", "begins", "(I)I"⟩, 55), (⟨"GiftsOfCourtsModel", "readsCourt", "()Z"⟩, 55), (⟨"GiftsOfCourtsModel", "digitIn", "(II)I"⟩, 55), (⟨"GiftsOfCourtsModel", "number", "(I)I"⟩, 55), (⟨"GiftsOfCourtsModel", "isDigit", "()Z"⟩, 55), (⟨"GiftsOfCourtsModel", "takes", "(I)Z"⟩, 55), (⟨"GiftsOfCourtsModel", "faultOf", "(IIZ)I"⟩, 55), (⟨"GiftsOfCourtsModel", "comes", "(II)V"⟩, 55)]
theorem lw_r3 : ∀ q ∈ lw_privs_3, lw_okq q := lw_all (l := [((⟨"GiftsOfCourts$Debts", "closes", "(LGiftsOfCourts$State;III)Z"⟩, 4), 229, 818, 819), ((⟨"GiftsOfCourts", "mostEsteemedBut", "(I)I"⟩, 14), 25, 831, 832), ((⟨"GiftsOfCourts", "isLeague", "(I)Z"⟩, 14), 25, 843, 844), ((⟨"GiftsOfCourts$Clues", "fitsAll", "(LGiftsOfCourts$State;I)Z"⟩, 4), 281, 870, 871), ((⟨"GiftsOfCourts$Clues", "fitsOne", "(LGiftsOfCourts$State;III)Z"⟩, 4), 281, 874, 875), ((⟨"GiftsOfCourts", "worthAtHome", "(LGiftsOfCourts$Rule;)I"⟩, 14), 25, 893, 894), ((⟨"GiftsOfCourts", "tryDelivery", "(II)Z"⟩, 14), 25, 918, 919), ((⟨"java/lang/Throwable", "fillInStackTrace", "(I)Ljava/lang/Throwable;"⟩, 6), 1004, 1002, 1003), ((⟨"GiftsOfCourtsModel", "begins", "(I)I"⟩, 55), 1054, 1242, 1243), ((⟨"GiftsOfCourtsModel", "readsCourt", "()Z"⟩, 55), 1054, 1247, 1248), ((⟨"GiftsOfCourtsModel", "digitIn", "(II)I"⟩, 55), 1054, 1251, 1252), ((⟨"GiftsOfCourtsModel", "number", "(I)I"⟩, 55), 1054, 1255, 1256), ((⟨"GiftsOfCourtsModel", "isDigit", "()Z"⟩, 55), 1054, 1259, 1260), ((⟨"GiftsOfCourtsModel", "takes", "(I)Z"⟩, 55), 1054, 1265, 1266), ((⟨"GiftsOfCourtsModel", "faultOf", "(IIZ)I"⟩, 55), 1054, 1272, 1273), ((⟨"GiftsOfCourtsModel", "comes", "(II)V"⟩, 55), 1054, 1276, 1277)]) (by decide +kernel)
def lw_privs_4 : List (MethodName × Nat) := [(⟨"GiftsOfCourtsModel", "isNew", "()V"⟩, 55), (⟨"GiftsOfCourtsModel", "readsGift", "()Z"⟩, 55), (⟨"GiftsOfCourtsModel", "readsRule", "()I"⟩, 55), (⟨"GiftsOfCourtsModel", "readsRank", "(I)Z"⟩, 55), (⟨"GiftsOfCourtsModel", "readsThing", "()Z"⟩, 55), (⟨"GiftsOfCourtsModel", "codes", "(I)V"⟩, 55), (⟨"GiftsOfCourtsModel", "takesOf", "(Ljava/lang/String;)I"⟩, 55), (⟨"GiftsOfCourtsModel", "laysCode", "([II)V"⟩, 55), (⟨"GiftsOfCourtsModel", "isCourt", "(I)Z"⟩, 55), (⟨"GiftsOfCourtsModel", "refuse", "()I"⟩, 55), (⟨"GiftsOfCourtsModel", "giftsOf", "([II)I"⟩, 55), (⟨"GiftsOfCourtsModel", "alliedTo", "(I)I"⟩, 55), (⟨"GiftsOfCourtsModel", "atWarWith", "(I)I"⟩, 55), (⟨"GiftsOfCourtsModel", "owesAll", "(I)I"⟩, 55), (⟨"GiftsOfCourtsModel", "arePair", "(II)Z"⟩, 55), (⟨"GiftsOfCourtsModel", "isGift", "(I)Z"⟩, 55)]
theorem lw_r4 : ∀ q ∈ lw_privs_4, lw_okq q := lw_all (l := [((⟨"GiftsOfCourtsModel", "isNew", "()V"⟩, 55), 1054, 1280, 1281), ((⟨"GiftsOfCourtsModel", "readsGift", "()Z"⟩, 55), 1054, 1288, 1289), ((⟨"GiftsOfCourtsModel", "readsRule", "()I"⟩, 55), 1054, 1296, 1297), ((⟨"GiftsOfCourtsModel", "readsRank", "(I)Z"⟩, 55), 1054, 1300, 1301), ((⟨"GiftsOfCourtsModel", "readsThing", "()Z"⟩, 55), 1054, 1304, 1305), ((⟨"GiftsOfCourtsModel", "codes", "(I)V"⟩, 55), 1054, 1308, 1309), ((⟨"GiftsOfCourtsModel", "takesOf", "(Ljava/lang/String;)I"⟩, 55), 1054, 1313, 1314), ((⟨"GiftsOfCourtsModel", "laysCode", "([II)V"⟩, 55), 1054, 1368, 1369), ((⟨"GiftsOfCourtsModel", "isCourt", "(I)Z"⟩, 55), 1054, 1377, 1378), ((⟨"GiftsOfCourtsModel", "refuse", "()I"⟩, 55), 1054, 1384, 1385), ((⟨"GiftsOfCourtsModel", "giftsOf", "([II)I"⟩, 55), 1054, 1388, 1389), ((⟨"GiftsOfCourtsModel", "alliedTo", "(I)I"⟩, 55), 1054, 1392, 1393), ((⟨"GiftsOfCourtsModel", "atWarWith", "(I)I"⟩, 55), 1054, 1402, 1403), ((⟨"GiftsOfCourtsModel", "owesAll", "(I)I"⟩, 55), 1054, 1409, 1410), ((⟨"GiftsOfCourtsModel", "arePair", "(II)Z"⟩, 55), 1054, 1420, 1421), ((⟨"GiftsOfCourtsModel", "isGift", "(I)Z"⟩, 55), 1054, 1429, 1430)]) (by decide +kernel)
def lw_privs_5 : List (MethodName × Nat) := [(⟨"GiftsOfCourtsModel", "grainAll", "([I)I"⟩, 55), (⟨"GiftsOfCourtsModel", "putsBy", "()V"⟩, 55), (⟨"GiftsOfCourtsModel", "sends", "([III)I"⟩, 55), (⟨"GiftsOfCourtsModel", "valueOf", "([III)I"⟩, 55), (⟨"GiftsOfCourtsModel", "ruled", "()I"⟩, 55), (⟨"GiftsOfCourtsModel", "counts", "(I)I"⟩, 55), (⟨"GiftsOfCourtsModel", "adds", "(I)I"⟩, 55), (⟨"GiftsOfCourtsModel", "enters", "(J)V"⟩, 55), (⟨"GiftsOfCourtsModel", "monthGoes", "([I)V"⟩, 55), (⟨"GiftsOfCourtsModel", "isHungry", "([II)Z"⟩, 55), (⟨"GiftsOfCourtsModel", "envoys", "(III)I"⟩, 55), (⟨"GiftsOfCourtsModel", "forgives", "(II)I"⟩, 55), (⟨"GiftsOfCourtsModel", "readsAct", "()Z"⟩, 55), (⟨"GiftsOfCourtsModel", "does", "(I)Z"⟩, 55), (⟨"GiftsOfCourtsModel", "copies", "()V"⟩, 55), (⟨"GiftsOfCourtsModel", "winsBy", "(IIIII)V"⟩, 55)]
theorem lw_r5 : ∀ q ∈ lw_privs_5, lw_okq q := lw_all (l := [((⟨"GiftsOfCourtsModel", "grainAll", "([I)I"⟩, 55), 1054, 1450, 1451), ((⟨"GiftsOfCourtsModel", "putsBy", "()V"⟩, 55), 1054, 1462, 1463), ((⟨"GiftsOfCourtsModel", "sends", "([III)I"⟩, 55), 1054, 1466, 1467), ((⟨"GiftsOfCourtsModel", "valueOf", "([III)I"⟩, 55), 1054, 1470, 1471), ((⟨"GiftsOfCourtsModel", "ruled", "()I"⟩, 55), 1054, 1475, 1476), ((⟨"GiftsOfCourtsModel", "counts", "(I)I"⟩, 55), 1054, 1488, 1489), ((⟨"GiftsOfCourtsModel", "adds", "(I)I"⟩, 55), 1054, 1492, 1493), ((⟨"GiftsOfCourtsModel", "enters", "(J)V"⟩, 55), 1054, 1496, 1497), ((⟨"GiftsOfCourtsModel", "monthGoes", "([I)V"⟩, 55), 1054, 1505, 1506), ((⟨"GiftsOfCourtsModel", "isHungry", "([II)Z"⟩, 55), 1054, 1509, 1510), ((⟨"GiftsOfCourtsModel", "envoys", "(III)I"⟩, 55), 1054, 1517, 1518), ((⟨"GiftsOfCourtsModel", "forgives", "(II)I"⟩, 55), 1054, 1526, 1527), ((⟨"GiftsOfCourtsModel", "readsAct", "()Z"⟩, 55), 1054, 1534, 1535), ((⟨"GiftsOfCourtsModel", "does", "(I)Z"⟩, 55), 1054, 1539, 1540), ((⟨"GiftsOfCourtsModel", "copies", "()V"⟩, 55), 1054, 1556, 1557), ((⟨"GiftsOfCourtsModel", "winsBy", "(IIIII)V"⟩, 55), 1054, 1564, 1565)]) (by decide +kernel)
def lw_privs_6 : List (MethodName × Nat) := [(⟨"GiftsOfCourtsModel", "laysFar", "(I)V"⟩, 55), (⟨"GiftsOfCourtsModel", "diesIn", "(I)I"⟩, 55), (⟨"GiftsOfCourtsModel", "owedAll", "(I)I"⟩, 55), (⟨"GiftsOfCourtsModel", "rings", "(II)V"⟩, 55), (⟨"GiftsOfCourtsModel", "likedBy", "(I)I"⟩, 55), (⟨"GiftsOfCourtsModel", "fitting", "()I"⟩, 55), (⟨"GiftsOfCourtsModel", "isSo", "(III)Z"⟩, 55), (⟨"GiftsOfCourtsModel", "valueAll", "()I"⟩, 55), (⟨"GiftsOfCourtsModel", "draws", "(I)I"⟩, 55), (⟨"GiftsOfCourtsModel", "pairMany", "(I)I"⟩, 55)]
theorem lw_r6 : ∀ q ∈ lw_privs_6, lw_okq q := lw_all (l := [((⟨"GiftsOfCourtsModel", "laysFar", "(I)V"⟩, 55), 1054, 1580, 1581), ((⟨"GiftsOfCourtsModel", "diesIn", "(I)I"⟩, 55), 1054, 1600, 1601), ((⟨"GiftsOfCourtsModel", "owedAll", "(I)I"⟩, 55), 1054, 1617, 1618), ((⟨"GiftsOfCourtsModel", "rings", "(II)V"⟩, 55), 1054, 1629, 1630), ((⟨"GiftsOfCourtsModel", "likedBy", "(I)I"⟩, 55), 1054, 1637, 1638), ((⟨"GiftsOfCourtsModel", "fitting", "()I"⟩, 55), 1054, 1657, 1658), ((⟨"GiftsOfCourtsModel", "isSo", "(III)Z"⟩, 55), 1054, 1661, 1662), ((⟨"GiftsOfCourtsModel", "valueAll", "()I"⟩, 55), 1054, 1673, 1674), ((⟨"GiftsOfCourtsModel", "draws", "(I)I"⟩, 55), 1054, 1692, 1693), ((⟨"GiftsOfCourtsModel", "pairMany", "(I)I"⟩, 55), 1054, 1709, 1710)]) (by decide +kernel)
def lw_privs : List (MethodName × Nat) := lw_privs_1 ++ (lw_privs_2 ++ (lw_privs_3 ++ (lw_privs_4 ++ (lw_privs_5 ++ (lw_privs_6)))))
def lw_tbl : List Cond := k2_sels lw_privs ++ tables_1
theorem lw_privs_ok : ∀ q ∈ lw_privs, lw_okq q := by
  show ∀ q ∈ lw_privs_1 ++ (lw_privs_2 ++ (lw_privs_3 ++ (lw_privs_4 ++ (lw_privs_5 ++ (lw_privs_6))))), lw_okq q
  exact List.forall_mem_append.mpr ⟨lw_r1, List.forall_mem_append.mpr ⟨lw_r2, List.forall_mem_append.mpr ⟨lw_r3, List.forall_mem_append.mpr ⟨lw_r4, List.forall_mem_append.mpr ⟨lw_r5, lw_r6⟩⟩⟩⟩⟩
end MH00listsx2
section MH00listsx3
def RX0 : String := "GiftsOfCourts$Clues"
def TX0 : u_T := fun k => match k with
  | 0 => ("GiftsOfCourts$Clues", "size", "I", false)
  | 1 => ("GiftsOfCourts$Clues", "realm", "LGiftsOfCourts$Realm;", true)
  | 2 => ("GiftsOfCourts$Clues", "whats", "[I", true)
  | _ => ("GiftsOfCourts$Clues", "numbers", "[I", true)
def tyX0 : Nat → FieldType := fun k => match k with
  | 0 => .int
  | 1 => .object "GiftsOfCourts$Realm"
  | 2 => .array .int
  | _ => .array .int
abbrev wsX00 : List Cond := u_ws RX0 TX0 4
theorem nmX0 : ∀ a, a < 4 → ∀ b, b < 4 → a ≠ b → (TX0 a).2.1 ≠ (TX0 b).2.1 := by decide +kernel
theorem tyX0_ok : ∀ k, k < 4 → parseFieldDescriptor (TX0 k).2.2.1 = some (tyX0 k) := by decide +kernel
abbrev cX0_init : ByteArray := prog_2_method_1_code
def yX0_init : MethodName := ⟨RX0, "<init>", "(LGiftsOfCourts$Realm;)V"⟩
abbrev cX0_hear : ByteArray := prog_2_method_2_code
def yX0_hear : MethodName := ⟨RX0, "hear", "(II)Z"⟩
abbrev cX0_canBe : ByteArray := prog_2_method_3_code
def yX0_canBe : MethodName := ⟨RX0, "canBe", "(II)Z"⟩
abbrev cX0_fitting : ByteArray := prog_2_method_4_code
def yX0_fitting : MethodName := ⟨RX0, "fitting", "(LGiftsOfCourts$State;)I"⟩
abbrev cX0_fitsAll : ByteArray := prog_2_method_5_code
def yX0_fitsAll : MethodName := ⟨RX0, "fitsAll", "(LGiftsOfCourts$State;I)Z"⟩
abbrev cX0_fitsOne : ByteArray := prog_2_method_6_code
def yX0_fitsOne : MethodName := ⟨RX0, "fitsOne", "(LGiftsOfCourts$State;III)Z"⟩
def RX1 : String := "GiftsOfCourts$Debts"
def TX1 : u_T := fun k => match k with
  | 0 => ("GiftsOfCourts$Debts", "chain", "[I", true)
  | 1 => ("GiftsOfCourts$Debts", "realm", "LGiftsOfCourts$Realm;", true)
  | 2 => ("GiftsOfCourts$Debts", "nets", "[I", true)
  | _ => ("GiftsOfCourts$Debts", "groups", "[I", true)
def tyX1 : Nat → FieldType := fun k => match k with
  | 0 => .array .int
  | 1 => .object "GiftsOfCourts$Realm"
  | 2 => .array .int
  | _ => .array .int
abbrev wsX10 : List Cond := u_ws RX1 TX1 4
theorem nmX1 : ∀ a, a < 4 → ∀ b, b < 4 → a ≠ b → (TX1 a).2.1 ≠ (TX1 b).2.1 := by decide +kernel
theorem tyX1_ok : ∀ k, k < 4 → parseFieldDescriptor (TX1 k).2.2.1 = some (tyX1 k) := by decide +kernel
abbrev cX1_init : ByteArray := prog_3_method_1_code
def yX1_init : MethodName := ⟨RX1, "<init>", "(LGiftsOfCourts$Realm;)V"⟩
abbrev cX1_owedBy : ByteArray := prog_3_method_2_code
def yX1_owedBy : MethodName := ⟨RX1, "owedBy", "(LGiftsOfCourts$State;I)I"⟩
abbrev cX1_owedTo : ByteArray := prog_3_method_3_code
def yX1_owedTo : MethodName := ⟨RX1, "owedTo", "(LGiftsOfCourts$State;I)I"⟩
abbrev cX1_allDues : ByteArray := prog_3_method_4_code
def yX1_allDues : MethodName := ⟨RX1, "allDues", "(LGiftsOfCourts$State;)I"⟩
abbrev cX1_openNets : ByteArray := prog_3_method_5_code
def yX1_openNets : MethodName := ⟨RX1, "openNets", "(LGiftsOfCourts$State;)I"⟩
abbrev cX1_fewestPayments : ByteArray := prog_3_method_6_code
def yX1_fewestPayments : MethodName := ⟨RX1, "fewestPayments", "(I)I"⟩
abbrev cX1_shortestRing : ByteArray := prog_3_method_7_code
def yX1_shortestRing : MethodName := ⟨RX1, "shortestRing", "(LGiftsOfCourts$State;)I"⟩
abbrev cX1_closes : ByteArray := prog_3_method_8_code
def yX1_closes : MethodName := ⟨RX1, "closes", "(LGiftsOfCourts$State;III)Z"⟩
abbrev cX1_leastDue : ByteArray := prog_3_method_9_code
def yX1_leastDue : MethodName := ⟨RX1, "leastDue", "(LGiftsOfCourts$State;I)I"⟩
def RX2 : String := "GiftsOfCourts$Past"
def TX2 : u_T := fun k => match k with
  | 0 => ("GiftsOfCourts$Past", "states", "[LGiftsOfCourts$State;", true)
  | 1 => ("GiftsOfCourts$Past", "first", "I", false)
  | _ => ("GiftsOfCourts$Past", "size", "I", false)
def tyX2 : Nat → FieldType := fun k => match k with
  | 0 => .array (.object "GiftsOfCourts$State")
  | 1 => .int
  | _ => .int
abbrev wsX20 : List Cond := u_ws RX2 TX2 3
theorem nmX2 : ∀ a, a < 3 → ∀ b, b < 3 → a ≠ b → (TX2 a).2.1 ≠ (TX2 b).2.1 := by decide +kernel
theorem tyX2_ok : ∀ k, k < 3 → parseFieldDescriptor (TX2 k).2.2.1 = some (tyX2 k) := by decide +kernel
abbrev cX2_init : ByteArray := prog_4_method_1_code
def yX2_init : MethodName := ⟨RX2, "<init>", "()V"⟩
abbrev cX2_mark : ByteArray := prog_4_method_2_code
def yX2_mark : MethodName := ⟨RX2, "mark", "(LGiftsOfCourts$State;)V"⟩
abbrev cX2_commit : ByteArray := prog_4_method_3_code
def yX2_commit : MethodName := ⟨RX2, "commit", "()V"⟩
abbrev cX2_remember : ByteArray := prog_4_method_4_code
def yX2_remember : MethodName := ⟨RX2, "remember", "(LGiftsOfCourts$State;)V"⟩
abbrev cX2_restore : ByteArray := prog_4_method_5_code
def yX2_restore : MethodName := ⟨RX2, "restore", "(LGiftsOfCourts$State;)Z"⟩
abbrev cX2_clear : ByteArray := prog_4_method_6_code
def yX2_clear : MethodName := ⟨RX2, "clear", "()V"⟩
abbrev cX2_slotOf : ByteArray := prog_4_method_7_code
def yX2_slotOf : MethodName := ⟨RX2, "slotOf", "(I)I"⟩
def RX3 : String := "GiftsOfCourts$Realm"
def TX3 : u_T := fun k => match k with
  | 0 => ("GiftsOfCourts$Realm", "courtCount", "I", false)
  | 1 => ("GiftsOfCourts$Realm", "giftCount", "I", false)
  | 2 => ("GiftsOfCourts$Realm", "rank", "[I", true)
  | 3 => ("GiftsOfCourts$Realm", "taste", "[I", true)
  | 4 => ("GiftsOfCourts$Realm", "road", "[I", true)
  | 5 => ("GiftsOfCourts$Realm", "kind", "[I", true)
  | 6 => ("GiftsOfCourts$Realm", "worth", "[I", true)
  | 7 => ("GiftsOfCourts$Realm", "eats", "[I", true)
  | _ => ("GiftsOfCourts$Realm", "inputs", "[I", true)
def tyX3 : Nat → FieldType := fun k => match k with
  | 0 => .int
  | 1 => .int
  | 2 => .array .int
  | 3 => .array .int
  | 4 => .array .int
  | 5 => .array .int
  | 6 => .array .int
  | 7 => .array .int
  | _ => .array .int
abbrev wsX30 : List Cond := u_ws RX3 TX3 9
theorem nmX3 : ∀ a, a < 9 → ∀ b, b < 9 → a ≠ b → (TX3 a).2.1 ≠ (TX3 b).2.1 := by decide +kernel
theorem tyX3_ok : ∀ k, k < 9 → parseFieldDescriptor (TX3 k).2.2.1 = some (tyX3 k) := by decide +kernel
abbrev cX3_init : ByteArray := prog_5_method_1_code
def yX3_init : MethodName := ⟨RX3, "<init>", "()V"⟩
abbrev cX3_isCourt : ByteArray := prog_5_method_2_code
def yX3_isCourt : MethodName := ⟨RX3, "isCourt", "(I)Z"⟩
abbrev cX3_areTwoCourts : ByteArray := prog_5_method_3_code
def yX3_areTwoCourts : MethodName := ⟨RX3, "areTwoCourts", "(II)Z"⟩
abbrev cX3_isGift : ByteArray := prog_5_method_4_code
def yX3_isGift : MethodName := ⟨RX3, "isGift", "(I)Z"⟩
abbrev cX3_noteCourt : ByteArray := prog_5_method_5_code
def yX3_noteCourt : MethodName := ⟨RX3, "noteCourt", "(III)V"⟩
abbrev cX3_noteGift : ByteArray := prog_5_method_6_code
def yX3_noteGift : MethodName := ⟨RX3, "noteGift", "(IIII)V"⟩
abbrev cX3_tasteOf : ByteArray := prog_5_method_7_code
def yX3_tasteOf : MethodName := ⟨RX3, "tasteOf", "(II)I"⟩
abbrev cX3_heldBy : ByteArray := prog_5_method_8_code
def yX3_heldBy : MethodName := ⟨RX3, "heldBy", "(LGiftsOfCourts$State;I)I"⟩
abbrev cX3_formerlyOf : ByteArray := prog_5_method_9_code
def yX3_formerlyOf : MethodName := ⟨RX3, "formerlyOf", "(LGiftsOfCourts$State;I)I"⟩
abbrev cX3_alliesOf : ByteArray := prog_5_method_10_code
def yX3_alliesOf : MethodName := ⟨RX3, "alliesOf", "(LGiftsOfCourts$State;I)I"⟩
abbrev cX3_foesOf : ByteArray := prog_5_method_11_code
def yX3_foesOf : MethodName := ⟨RX3, "foesOf", "(LGiftsOfCourts$State;I)I"⟩
abbrev cX3_alliedPairs : ByteArray := prog_5_method_12_code
def yX3_alliedPairs : MethodName := ⟨RX3, "alliedPairs", "(LGiftsOfCourts$State;)I"⟩
abbrev cX3_warringPairs : ByteArray := prog_5_method_13_code
def yX3_warringPairs : MethodName := ⟨RX3, "warringPairs", "(LGiftsOfCourts$State;)I"⟩
abbrev cX3_roadsThere : ByteArray := prog_5_method_14_code
def yX3_roadsThere : MethodName := ⟨RX3, "roadsThere", "()I"⟩
abbrev cX3_allGrain : ByteArray := prog_5_method_15_code
def yX3_allGrain : MethodName := ⟨RX3, "allGrain", "(LGiftsOfCourts$State;)I"⟩
abbrev cX3_esteemFor : ByteArray := prog_5_method_16_code
def yX3_esteemFor : MethodName := ⟨RX3, "esteemFor", "(LGiftsOfCourts$State;I)I"⟩
abbrev cX3_allEsteem : ByteArray := prog_5_method_17_code
def yX3_allEsteem : MethodName := ⟨RX3, "allEsteem", "(LGiftsOfCourts$State;)I"⟩
abbrev cX3_valueFor : ByteArray := prog_5_method_18_code
def yX3_valueFor : MethodName := ⟨RX3, "valueFor", "(LGiftsOfCourts$Rule;LGiftsOfCourts$State;II)I"⟩
abbrev cX3_deliver : ByteArray := prog_5_method_19_code
def yX3_deliver : MethodName := ⟨RX3, "deliver", "(LGiftsOfCourts$State;III)V"⟩
abbrev cX3_isEater : ByteArray := prog_5_method_20_code
def yX3_isEater : MethodName := ⟨RX3, "isEater", "(LGiftsOfCourts$State;I)Z"⟩
abbrev cX3_passMonth : ByteArray := prog_5_method_21_code
def yX3_passMonth : MethodName := ⟨RX3, "passMonth", "(LGiftsOfCourts$State;)V"⟩
abbrev cX3_passMonthAt : ByteArray := prog_5_method_22_code
def yX3_passMonthAt : MethodName := ⟨RX3, "passMonthAt", "(LGiftsOfCourts$State;I)V"⟩
abbrev cX3_firstDeath : ByteArray := prog_5_method_23_code
def yX3_firstDeath : MethodName := ⟨RX3, "firstDeath", "(LGiftsOfCourts$State;I)I"⟩
def RX4 : String := "GiftsOfCourts$Roads"
def TX4 : u_T := fun k => match k with
  | 0 => ("GiftsOfCourts$Roads", "realm", "LGiftsOfCourts$Realm;", true)
  | 1 => ("GiftsOfCourts$Roads", "left", "[I", true)
  | _ => ("GiftsOfCourts$Roads", "fed", "[I", true)
def tyX4 : Nat → FieldType := fun k => match k with
  | 0 => .object "GiftsOfCourts$Realm"
  | 1 => .array .int
  | _ => .array .int
abbrev wsX40 : List Cond := u_ws RX4 TX4 3
theorem nmX4 : ∀ a, a < 3 → ∀ b, b < 3 → a ≠ b → (TX4 a).2.1 ≠ (TX4 b).2.1 := by decide +kernel
theorem tyX4_ok : ∀ k, k < 3 → parseFieldDescriptor (TX4 k).2.2.1 = some (tyX4 k) := by decide +kernel
abbrev cX4_init : ByteArray := prog_6_method_1_code
def yX4_init : MethodName := ⟨RX4, "<init>", "(LGiftsOfCourts$Realm;)V"⟩
abbrev cX4_fewestMonths : ByteArray := prog_6_method_2_code
def yX4_fewestMonths : MethodName := ⟨RX4, "fewestMonths", "(II)I"⟩
abbrev cX4_shorten : ByteArray := prog_6_method_3_code
def yX4_shorten : MethodName := ⟨RX4, "shorten", "(I)V"⟩
abbrev cX4_tellWay : ByteArray := prog_6_method_4_code
def yX4_tellWay : MethodName := ⟨RX4, "tellWay", "(ILGiftsOfCourts$Row;)V"⟩
abbrev cX4_firstNext : ByteArray := prog_6_method_5_code
def yX4_firstNext : MethodName := ⟨RX4, "firstNext", "(I)I"⟩
abbrev cX4_fewestFedMonths : ByteArray := prog_6_method_6_code
def yX4_fewestFedMonths : MethodName := ⟨RX4, "fewestFedMonths", "(IIII)I"⟩
abbrev cX4_goOn : ByteArray := prog_6_method_7_code
def yX4_goOn : MethodName := ⟨RX4, "goOn", "(IIII)V"⟩
def RX5 : String := "GiftsOfCourts$Row"
def TX5 : u_T := fun k => match k with
  | 0 => ("GiftsOfCourts$Row", "numbers", "[J", true)
  | _ => ("GiftsOfCourts$Row", "size", "I", false)
def tyX5 : Nat → FieldType := fun k => match k with
  | 0 => .array .long
  | _ => .int
abbrev wsX50 : List Cond := u_ws RX5 TX5 2
theorem nmX5 : ∀ a, a < 2 → ∀ b, b < 2 → a ≠ b → (TX5 a).2.1 ≠ (TX5 b).2.1 := by decide +kernel
theorem tyX5_ok : ∀ k, k < 2 → parseFieldDescriptor (TX5 k).2.2.1 = some (tyX5 k) := by decide +kernel
abbrev cX5_init : ByteArray := prog_7_method_1_code
def yX5_init : MethodName := ⟨RX5, "<init>", "()V"⟩
abbrev cX5_clear : ByteArray := prog_7_method_2_code
def yX5_clear : MethodName := ⟨RX5, "clear", "()V"⟩
abbrev cX5_tell : ByteArray := prog_7_method_3_code
def yX5_tell : MethodName := ⟨RX5, "tell", "(J)V"⟩
abbrev cX5_tellOne : ByteArray := prog_7_method_4_code
def yX5_tellOne : MethodName := ⟨RX5, "tellOne", "(J)V"⟩
abbrev cX5_tellTwo : ByteArray := prog_7_method_5_code
def yX5_tellTwo : MethodName := ⟨RX5, "tellTwo", "(JJ)V"⟩
def RX6 : String := "GiftsOfCourts$Rule"
def TX6 : u_T := fun k => match k with
  | 0 => ("GiftsOfCourts$Rule", "code", "[I", true)
  | 1 => ("GiftsOfCourts$Rule", "size", "I", false)
  | 2 => ("GiftsOfCourts$Rule", "stack", "[I", true)
  | 3 => ("GiftsOfCourts$Rule", "top", "I", false)
  | 4 => ("GiftsOfCourts$Rule", "source", "LGiftsOfCourts$Text;", true)
  | _ => ("GiftsOfCourts$Rule", "at", "I", false)
def tyX6 : Nat → FieldType := fun k => match k with
  | 0 => .array .int
  | 1 => .int
  | 2 => .array .int
  | 3 => .int
  | 4 => .object "GiftsOfCourts$Text"
  | _ => .int
abbrev wsX60 : List Cond := u_ws RX6 TX6 6
theorem nmX6 : ∀ a, a < 6 → ∀ b, b < 6 → a ≠ b → (TX6 a).2.1 ≠ (TX6 b).2.1 := by decide +kernel
theorem tyX6_ok : ∀ k, k < 6 → parseFieldDescriptor (TX6 k).2.2.1 = some (tyX6 k) := by decide +kernel
abbrev cX6_init : ByteArray := prog_8_method_1_code
def yX6_init : MethodName := ⟨RX6, "<init>", "(LGiftsOfCourts$Text;)V"⟩
abbrev cX6_read : ByteArray := prog_8_method_2_code
def yX6_read : MethodName := ⟨RX6, "read", "()I"⟩
abbrev cX6_beFirstRule : ByteArray := prog_8_method_3_code
def yX6_beFirstRule : MethodName := ⟨RX6, "beFirstRule", "()V"⟩
abbrev cX6_emit : ByteArray := prog_8_method_4_code
def yX6_emit : MethodName := ⟨RX6, "emit", "(I)V"⟩
abbrev cX6_nextSign : ByteArray := prog_8_method_5_code
def yX6_nextSign : MethodName := ⟨RX6, "nextSign", "()I"⟩
abbrev cX6_readLevel : ByteArray := prog_8_method_6_code
def yX6_readLevel : MethodName := ⟨RX6, "readLevel", "(II)Z"⟩
abbrev cX6_levelOf : ByteArray := prog_8_method_7_code
def yX6_levelOf : MethodName := ⟨RX6, "levelOf", "(I)I"⟩
abbrev cX6_readSigned : ByteArray := prog_8_method_8_code
def yX6_readSigned : MethodName := ⟨RX6, "readSigned", "(I)Z"⟩
abbrev cX6_readThing : ByteArray := prog_8_method_9_code
def yX6_readThing : MethodName := ⟨RX6, "readThing", "(I)Z"⟩
abbrev cX6_readNumber : ByteArray := prog_8_method_10_code
def yX6_readNumber : MethodName := ⟨RX6, "readNumber", "()V"⟩
abbrev cX6_letterOf : ByteArray := prog_8_method_11_code
def yX6_letterOf : MethodName := ⟨RX6, "letterOf", "(I)I"⟩
abbrev cX6_evaluate : ByteArray := prog_8_method_12_code
def yX6_evaluate : MethodName := ⟨RX6, "evaluate", "([I)I"⟩
abbrev cX6_push : ByteArray := prog_8_method_13_code
def yX6_push : MethodName := ⟨RX6, "push", "(I)V"⟩
abbrev cX6_pop : ByteArray := prog_8_method_14_code
def yX6_pop : MethodName := ⟨RX6, "pop", "()I"⟩
abbrev cX6_joined : ByteArray := prog_8_method_15_code
def yX6_joined : MethodName := ⟨RX6, "joined", "(III)I"⟩
def RX7 : String := "GiftsOfCourts$State"
def TX7 : u_T := fun k => match k with
  | 0 => ("GiftsOfCourts$State", "grain", "[I", true)
  | 1 => ("GiftsOfCourts$State", "esteem", "[I", true)
  | 2 => ("GiftsOfCourts$State", "due", "[I", true)
  | 3 => ("GiftsOfCourts$State", "holder", "[I", true)
  | 4 => ("GiftsOfCourts$State", "had", "[I", true)
  | 5 => ("GiftsOfCourts$State", "dead", "I", false)
  | _ => ("GiftsOfCourts$State", "month", "I", false)
def tyX7 : Nat → FieldType := fun k => match k with
  | 0 => .array .int
  | 1 => .array .int
  | 2 => .array .int
  | 3 => .array .int
  | 4 => .array .int
  | 5 => .int
  | _ => .int
abbrev wsX70 : List Cond := u_ws RX7 TX7 7
theorem nmX7 : ∀ a, a < 7 → ∀ b, b < 7 → a ≠ b → (TX7 a).2.1 ≠ (TX7 b).2.1 := by decide +kernel
theorem tyX7_ok : ∀ k, k < 7 → parseFieldDescriptor (TX7 k).2.2.1 = some (tyX7 k) := by decide +kernel
abbrev cX7_init : ByteArray := prog_9_method_1_code
def yX7_init : MethodName := ⟨RX7, "<init>", "()V"⟩
abbrev cX7_copyFrom : ByteArray := prog_9_method_2_code
def yX7_copyFrom : MethodName := ⟨RX7, "copyFrom", "(LGiftsOfCourts$State;)V"⟩
abbrev cX7_isDead : ByteArray := prog_9_method_3_code
def yX7_isDead : MethodName := ⟨RX7, "isDead", "(I)Z"⟩
abbrev cX7_hadIt : ByteArray := prog_9_method_4_code
def yX7_hadIt : MethodName := ⟨RX7, "hadIt", "(II)Z"⟩
abbrev cX7_isWelcome : ByteArray := prog_9_method_5_code
def yX7_isWelcome : MethodName := ⟨RX7, "isWelcome", "(II)Z"⟩
abbrev cX7_esteemGained : ByteArray := prog_9_method_6_code
def yX7_esteemGained : MethodName := ⟨RX7, "esteemGained", "(IIII)I"⟩
def RX8 : String := "GiftsOfCourts$Text"
def TX8 : u_T := fun k => match k with
  | 0 => ("GiftsOfCourts$Text", "signs", "[C", true)
  | _ => ("GiftsOfCourts$Text", "length", "I", false)
def tyX8 : Nat → FieldType := fun k => match k with
  | 0 => .array .char
  | _ => .int
abbrev wsX80 : List Cond := u_ws RX8 TX8 2
theorem nmX8 : ∀ a, a < 2 → ∀ b, b < 2 → a ≠ b → (TX8 a).2.1 ≠ (TX8 b).2.1 := by decide +kernel
theorem tyX8_ok : ∀ k, k < 2 → parseFieldDescriptor (TX8 k).2.2.1 = some (tyX8 k) := by decide +kernel
abbrev cX8_init : ByteArray := prog_10_method_1_code
def yX8_init : MethodName := ⟨RX8, "<init>", "()V"⟩
abbrev cX8_addFour : ByteArray := prog_10_method_2_code
def yX8_addFour : MethodName := ⟨RX8, "addFour", "(I)Z"⟩
abbrev cX8_signAt : ByteArray := prog_10_method_3_code
def yX8_signAt : MethodName := ⟨RX8, "signAt", "(II)I"⟩
abbrev cX8_digitAt : ByteArray := prog_10_method_4_code
def yX8_digitAt : MethodName := ⟨RX8, "digitAt", "(II)I"⟩
def RX9 : String := "GiftsOfCourts$Wooing"
def TX9 : u_T := fun k => match k with
  | 0 => ("GiftsOfCourts$Wooing", "best", "[I", true)
  | 1 => ("GiftsOfCourts$Wooing", "realm", "LGiftsOfCourts$Realm;", true)
  | 2 => ("GiftsOfCourts$Wooing", "state", "LGiftsOfCourts$State;", true)
  | 3 => ("GiftsOfCourts$Wooing", "values", "[I", true)
  | 4 => ("GiftsOfCourts$Wooing", "chosen", "[I", true)
  | 5 => ("GiftsOfCourts$Wooing", "wooed", "I", false)
  | 6 => ("GiftsOfCourts$Wooing", "wanted", "I", false)
  | _ => ("GiftsOfCourts$Wooing", "leastWorth", "I", false)
def tyX9 : Nat → FieldType := fun k => match k with
  | 0 => .array .int
  | 1 => .object "GiftsOfCourts$Realm"
  | 2 => .object "GiftsOfCourts$State"
  | 3 => .array .int
  | 4 => .array .int
  | 5 => .int
  | 6 => .int
  | _ => .int
abbrev wsX90 : List Cond := u_ws RX9 TX9 8
theorem nmX9 : ∀ a, a < 8 → ∀ b, b < 8 → a ≠ b → (TX9 a).2.1 ≠ (TX9 b).2.1 := by decide +kernel
theorem tyX9_ok : ∀ k, k < 8 → parseFieldDescriptor (TX9 k).2.2.1 = some (tyX9 k) := by decide +kernel
abbrev cX9_init : ByteArray := prog_11_method_1_code
def yX9_init : MethodName := ⟨RX9, "<init>", "(LGiftsOfCourts$Realm;LGiftsOfCourts$State;)V"⟩
abbrev cX9_fewestGifts : ByteArray := prog_11_method_2_code
def yX9_fewestGifts : MethodName := ⟨RX9, "fewestGifts", "(LGiftsOfCourts$Rule;II)I"⟩
abbrev cX9_goOn : ByteArray := prog_11_method_3_code
def yX9_goOn : MethodName := ⟨RX9, "goOn", "(IIIII)V"⟩
def RX10 : String := "GiftsOfCourts"
def TX10 : u_T := fun k => match k with
  | 0 => ("GiftsOfCourts", "text", "LGiftsOfCourts$Text;", true)
  | 1 => ("GiftsOfCourts", "told", "LGiftsOfCourts$Row;", true)
  | 2 => ("GiftsOfCourts", "realm", "LGiftsOfCourts$Realm;", true)
  | 3 => ("GiftsOfCourts", "now", "LGiftsOfCourts$State;", true)
  | 4 => ("GiftsOfCourts", "trial", "LGiftsOfCourts$State;", true)
  | 5 => ("GiftsOfCourts", "past", "LGiftsOfCourts$Past;", true)
  | 6 => ("GiftsOfCourts", "kept", "[LGiftsOfCourts$State;", true)
  | 7 => ("GiftsOfCourts", "keptThere", "I", false)
  | 8 => ("GiftsOfCourts", "ruling", "LGiftsOfCourts$Rule;", false)
  | 9 => ("GiftsOfCourts", "draft", "LGiftsOfCourts$Rule;", false)
  | 10 => ("GiftsOfCourts", "roads", "LGiftsOfCourts$Roads;", true)
  | 11 => ("GiftsOfCourts", "debts", "LGiftsOfCourts$Debts;", true)
  | 12 => ("GiftsOfCourts", "wooing", "LGiftsOfCourts$Wooing;", true)
  | _ => ("GiftsOfCourts", "clues", "LGiftsOfCourts$Clues;", true)
def tyX10 : Nat → FieldType := fun k => match k with
  | 0 => .object "GiftsOfCourts$Text"
  | 1 => .object "GiftsOfCourts$Row"
  | 2 => .object "GiftsOfCourts$Realm"
  | 3 => .object "GiftsOfCourts$State"
  | 4 => .object "GiftsOfCourts$State"
  | 5 => .object "GiftsOfCourts$Past"
  | 6 => .array (.object "GiftsOfCourts$State")
  | 7 => .int
  | 8 => .object "GiftsOfCourts$Rule"
  | 9 => .object "GiftsOfCourts$Rule"
  | 10 => .object "GiftsOfCourts$Roads"
  | 11 => .object "GiftsOfCourts$Debts"
  | 12 => .object "GiftsOfCourts$Wooing"
  | _ => .object "GiftsOfCourts$Clues"
abbrev wsX100 : List Cond := u_ws RX10 TX10 14
theorem nmX10 : ∀ a, a < 14 → ∀ b, b < 14 → a ≠ b → (TX10 a).2.1 ≠ (TX10 b).2.1 := by decide +kernel
theorem tyX10_ok : ∀ k, k < 14 → parseFieldDescriptor (TX10 k).2.2.1 = some (tyX10 k) := by decide +kernel
abbrev cX10_init : ByteArray := prog_1_method_1_code
def yX10_init : MethodName := ⟨RX10, "<init>", "()V"⟩
abbrev cX10_sign : ByteArray := prog_1_method_2_code
def yX10_sign : MethodName := ⟨RX10, "sign", "(I)I"⟩
abbrev cX10_end : ByteArray := prog_1_method_3_code
def yX10_end : MethodName := ⟨RX10, "end", "(I)Z"⟩
abbrev cX10_courts : ByteArray := prog_1_method_4_code
def yX10_courts : MethodName := ⟨RX10, "courts", "()I"⟩
abbrev cX10_gifts : ByteArray := prog_1_method_5_code
def yX10_gifts : MethodName := ⟨RX10, "gifts", "()I"⟩
abbrev cX10_rule : ByteArray := prog_1_method_6_code
def yX10_rule : MethodName := ⟨RX10, "rule", "()I"⟩
abbrev cX10_court : ByteArray := prog_1_method_7_code
def yX10_court : MethodName := ⟨RX10, "court", "(II)I"⟩
abbrev cX10_between : ByteArray := prog_1_method_8_code
def yX10_between : MethodName := ⟨RX10, "between", "(III)I"⟩
abbrev cX10_gift : ByteArray := prog_1_method_9_code
def yX10_gift : MethodName := ⟨RX10, "gift", "(II)I"⟩
abbrev cX10_road : ByteArray := prog_1_method_10_code
def yX10_road : MethodName := ⟨RX10, "road", "(III)I"⟩
abbrev cX10_sheet : ByteArray := prog_1_method_11_code
def yX10_sheet : MethodName := ⟨RX10, "sheet", "(IIII)I"⟩
abbrev cX10_send : ByteArray := prog_1_method_12_code
def yX10_send : MethodName := ⟨RX10, "send", "(II)I"⟩
abbrev cX10_months : ByteArray := prog_1_method_13_code
def yX10_months : MethodName := ⟨RX10, "months", "(I)I"⟩
abbrev cX10_envoy : ByteArray := prog_1_method_14_code
def yX10_envoy : MethodName := ⟨RX10, "envoy", "(III)I"⟩
abbrev cX10_forgive : ByteArray := prog_1_method_15_code
def yX10_forgive : MethodName := ⟨RX10, "forgive", "(II)I"⟩
abbrev cX10_year : ByteArray := prog_1_method_16_code
def yX10_year : MethodName := ⟨RX10, "year", "()I"⟩
abbrev cX10_undo : ByteArray := prog_1_method_17_code
def yX10_undo : MethodName := ⟨RX10, "undo", "()I"⟩
abbrev cX10_value : ByteArray := prog_1_method_18_code
def yX10_value : MethodName := ⟨RX10, "value", "(II)I"⟩
abbrev cX10_where : ByteArray := prog_1_method_19_code
def yX10_where : MethodName := ⟨RX10, "where", "(I)I"⟩
abbrev cX10_answer : ByteArray := prog_1_method_20_code
def yX10_answer : MethodName := ⟨RX10, "answer", "(II)I"⟩
abbrev cX10_wins : ByteArray := prog_1_method_21_code
def yX10_wins : MethodName := ⟨RX10, "wins", "(II)I"⟩
abbrev cX10_unseen : ByteArray := prog_1_method_22_code
def yX10_unseen : MethodName := ⟨RX10, "unseen", "(I)I"⟩
abbrev cX10_swaps : ByteArray := prog_1_method_23_code
def yX10_swaps : MethodName := ⟨RX10, "swaps", "()I"⟩
abbrev cX10_way : ByteArray := prog_1_method_24_code
def yX10_way : MethodName := ⟨RX10, "way", "(II)I"⟩
abbrev cX10_walks : ByteArray := prog_1_method_25_code
def yX10_walks : MethodName := ⟨RX10, "walks", "(IIII)I"⟩
abbrev cX10_alive : ByteArray := prog_1_method_26_code
def yX10_alive : MethodName := ⟨RX10, "alive", "(III)I"⟩
abbrev cX10_feeds : ByteArray := prog_1_method_27_code
def yX10_feeds : MethodName := ⟨RX10, "feeds", "(I)I"⟩
abbrev cX10_starves : ByteArray := prog_1_method_28_code
def yX10_starves : MethodName := ⟨RX10, "starves", "(II)I"⟩
abbrev cX10_net : ByteArray := prog_1_method_29_code
def yX10_net : MethodName := ⟨RX10, "net", "(I)I"⟩
abbrev cX10_settle : ByteArray := prog_1_method_30_code
def yX10_settle : MethodName := ⟨RX10, "settle", "()I"⟩
abbrev cX10_ring : ByteArray := prog_1_method_31_code
def yX10_ring : MethodName := ⟨RX10, "ring", "()I"⟩
abbrev cX10_ranks : ByteArray := prog_1_method_32_code
def yX10_ranks : MethodName := ⟨RX10, "ranks", "()I"⟩
abbrev cX10_league : ByteArray := prog_1_method_33_code
def yX10_league : MethodName := ⟨RX10, "league", "()I"⟩
abbrev cX10_heard : ByteArray := prog_1_method_34_code
def yX10_heard : MethodName := ⟨RX10, "heard", "(II)I"⟩
abbrev cX10_forget : ByteArray := prog_1_method_35_code
def yX10_forget : MethodName := ⟨RX10, "forget", "()I"⟩
abbrev cX10_fits : ByteArray := prog_1_method_36_code
def yX10_fits : MethodName := ⟨RX10, "fits", "()I"⟩
abbrev cX10_ask : ByteArray := prog_1_method_37_code
def yX10_ask : MethodName := ⟨RX10, "ask", "()I"⟩
abbrev cX10_law : ByteArray := prog_1_method_38_code
def yX10_law : MethodName := ⟨RX10, "law", "()I"⟩
abbrev cX10_rests : ByteArray := prog_1_method_39_code
def yX10_rests : MethodName := ⟨RX10, "rests", "(I)I"⟩
abbrev cX10_years : ByteArray := prog_1_method_40_code
def yX10_years : MethodName := ⟨RX10, "years", "(II)I"⟩
abbrev cX10_keep : ByteArray := prog_1_method_41_code
def yX10_keep : MethodName := ⟨RX10, "keep", "(I)Z"⟩
abbrev cX10_again : ByteArray := prog_1_method_42_code
def yX10_again : MethodName := ⟨RX10, "again", "(I)Z"⟩
abbrev cX10_count : ByteArray := prog_1_method_43_code
def yX10_count : MethodName := ⟨RX10, "count", "(I)I"⟩
abbrev cX10_row : ByteArray := prog_1_method_44_code
def yX10_row : MethodName := ⟨RX10, "row", "(I)J"⟩
abbrev cX10_readCourts : ByteArray := prog_1_method_45_code
def yX10_readCourts : MethodName := ⟨RX10, "readCourts", "()I"⟩
abbrev cX10_readGifts : ByteArray := prog_1_method_46_code
def yX10_readGifts : MethodName := ⟨RX10, "readGifts", "()I"⟩
abbrev cX10_readGift : ByteArray := prog_1_method_47_code
def yX10_readGift : MethodName := ⟨RX10, "readGift", "(II)I"⟩
abbrev cX10_settleIn : ByteArray := prog_1_method_48_code
def yX10_settleIn : MethodName := ⟨RX10, "settleIn", "(I)V"⟩
abbrev cX10_forgetStates : ByteArray := prog_1_method_49_code
def yX10_forgetStates : MethodName := ⟨RX10, "forgetStates", "()V"⟩
abbrev cX10_yearFault : ByteArray := prog_1_method_50_code
def yX10_yearFault : MethodName := ⟨RX10, "yearFault", "()I"⟩
abbrev cX10_actSigns : ByteArray := prog_1_method_51_code
def yX10_actSigns : MethodName := ⟨RX10, "actSigns", "(I)I"⟩
abbrev cX10_sendRefusal : ByteArray := prog_1_method_52_code
def yX10_sendRefusal : MethodName := ⟨RX10, "sendRefusal", "(II)I"⟩
abbrev cX10_isEnvoyRefused : ByteArray := prog_1_method_53_code
def yX10_isEnvoyRefused : MethodName := ⟨RX10, "isEnvoyRefused", "(III)Z"⟩
abbrev cX10_hearEnvoy : ByteArray := prog_1_method_54_code
def yX10_hearEnvoy : MethodName := ⟨RX10, "hearEnvoy", "(III)V"⟩
abbrev cX10_forgiveRefusal : ByteArray := prog_1_method_55_code
def yX10_forgiveRefusal : MethodName := ⟨RX10, "forgiveRefusal", "(II)I"⟩
abbrev cX10_passMonths : ByteArray := prog_1_method_56_code
def yX10_passMonths : MethodName := ⟨RX10, "passMonths", "(I)V"⟩
abbrev cX10_doAct : ByteArray := prog_1_method_57_code
def yX10_doAct : MethodName := ⟨RX10, "doAct", "(I)Z"⟩
abbrev cX10_actSend : ByteArray := prog_1_method_58_code
def yX10_actSend : MethodName := ⟨RX10, "actSend", "(II)Z"⟩
abbrev cX10_actForgive : ByteArray := prog_1_method_59_code
def yX10_actForgive : MethodName := ⟨RX10, "actForgive", "(II)Z"⟩
abbrev cX10_actEnvoy : ByteArray := prog_1_method_60_code
def yX10_actEnvoy : MethodName := ⟨RX10, "actEnvoy", "(III)Z"⟩
abbrev cX10_tryDelivery : ByteArray := prog_1_method_61_code
def yX10_tryDelivery : MethodName := ⟨RX10, "tryDelivery", "(II)Z"⟩
abbrev cX10_swapGain : ByteArray := prog_1_method_62_code
def yX10_swapGain : MethodName := ⟨RX10, "swapGain", "(II)I"⟩
abbrev cX10_mostEsteemedBut : ByteArray := prog_1_method_63_code
def yX10_mostEsteemedBut : MethodName := ⟨RX10, "mostEsteemedBut", "(I)I"⟩
abbrev cX10_isLeague : ByteArray := prog_1_method_64_code
def yX10_isLeague : MethodName := ⟨RX10, "isLeague", "(I)Z"⟩
abbrev cX10_worthAtHome : ByteArray := prog_1_method_65_code
def yX10_worthAtHome : MethodName := ⟨RX10, "worthAtHome", "(LGiftsOfCourts$Rule;)I"⟩
abbrev cX10_tellFraction : ByteArray := prog_1_method_66_code
def yX10_tellFraction : MethodName := ⟨RX10, "tellFraction", "(JJ)V"⟩
abbrev cX10_greatestDivisor : ByteArray := prog_1_method_67_code
def yX10_greatestDivisor : MethodName := ⟨RX10, "greatestDivisor", "(JJ)J"⟩
abbrev cX10_power : ByteArray := prog_1_method_68_code
def yX10_power : MethodName := ⟨RX10, "power", "(II)J"⟩
abbrev cX10_isBestReply : ByteArray := prog_1_method_69_code
def yX10_isBestReply : MethodName := ⟨RX10, "isBestReply", "(III)Z"⟩
abbrev cX10_gainOf : ByteArray := prog_1_method_70_code
def yX10_gainOf : MethodName := ⟨RX10, "gainOf", "(III)I"⟩
abbrev cX10_nextDraw : ByteArray := prog_1_method_71_code
def yX10_nextDraw : MethodName := ⟨RX10, "nextDraw", "(I)I"⟩
abbrev cX10_drawOf : ByteArray := prog_1_method_72_code
def yX10_drawOf : MethodName := ⟨RX10, "drawOf", "(II)I"⟩
abbrev cX10_sheetEntry : ByteArray := prog_1_method_73_code
def yX10_sheetEntry : MethodName := ⟨RX10, "sheetEntry", "(II)I"⟩
abbrev cX10_firstOf : ByteArray := prog_1_method_74_code
def yX10_firstOf : MethodName := ⟨RX10, "firstOf", "(I)I"⟩
abbrev cX10_clamped : ByteArray := prog_1_method_75_code
def yX10_clamped : MethodName := ⟨RX10, "clamped", "(II)I"⟩
abbrev cX10_pairOf : ByteArray := prog_1_method_76_code
def yX10_pairOf : MethodName := ⟨RX10, "pairOf", "(II)I"⟩
def RX11 : String := "GiftsOfCourtsModel"
def TX11 : u_T := fun k => match k with
  | 0 => ("GiftsOfCourtsModel", "thrown", "I", false)
  | 1 => ("GiftsOfCourtsModel", "told", "I", false)
  | 2 => ("GiftsOfCourtsModel", "row", "[J", true)
  | 3 => ("GiftsOfCourtsModel", "courts", "I", false)
  | 4 => ("GiftsOfCourtsModel", "gifts", "I", false)
  | 5 => ("GiftsOfCourtsModel", "changes", "I", false)
  | 6 => ("GiftsOfCourtsModel", "rank", "[I", true)
  | 7 => ("GiftsOfCourtsModel", "taste", "[I", true)
  | 8 => ("GiftsOfCourtsModel", "kind", "[I", true)
  | 9 => ("GiftsOfCourtsModel", "worth", "[I", true)
  | 10 => ("GiftsOfCourtsModel", "eats", "[I", true)
  | 11 => ("GiftsOfCourtsModel", "road", "[I", true)
  | 12 => ("GiftsOfCourtsModel", "now", "[I", true)
  | 13 => ("GiftsOfCourtsModel", "then", "[I", true)
  | 14 => ("GiftsOfCourtsModel", "tape", "[I", true)
  | 15 => ("GiftsOfCourtsModel", "taped", "I", false)
  | 16 => ("GiftsOfCourtsModel", "at", "I", false)
  | 17 => ("GiftsOfCourtsModel", "to", "I", false)
  | 18 => ("GiftsOfCourtsModel", "nest", "I", false)
  | 19 => ("GiftsOfCourtsModel", "read", "[I", true)
  | 20 => ("GiftsOfCourtsModel", "readMany", "I", false)
  | 21 => ("GiftsOfCourtsModel", "code", "[I", true)
  | 22 => ("GiftsOfCourtsModel", "readCode", "[I", true)
  | 23 => ("GiftsOfCourtsModel", "codeLong", "I", false)
  | 24 => ("GiftsOfCourtsModel", "codesRead", "I", false)
  | 25 => ("GiftsOfCourtsModel", "stack", "[I", true)
  | 26 => ("GiftsOfCourtsModel", "asked", "[I", true)
  | 27 => ("GiftsOfCourtsModel", "undos", "I", false)
  | 28 => ("GiftsOfCourtsModel", "undone", "[I", true)
  | 29 => ("GiftsOfCourtsModel", "sentValue", "I", false)
  | 30 => ("GiftsOfCourtsModel", "sentHad", "I", false)
  | 31 => ("GiftsOfCourtsModel", "actSign", "[I", true)
  | 32 => ("GiftsOfCourtsModel", "actOne", "[I", true)
  | 33 => ("GiftsOfCourtsModel", "actTwo", "[I", true)
  | 34 => ("GiftsOfCourtsModel", "actThree", "[I", true)
  | 35 => ("GiftsOfCourtsModel", "acts", "I", false)
  | 36 => ("GiftsOfCourtsModel", "turn", "[I", true)
  | 37 => ("GiftsOfCourtsModel", "bestTurn", "[I", true)
  | 38 => ("GiftsOfCourtsModel", "bestWorth", "I", false)
  | 39 => ("GiftsOfCourtsModel", "far", "[I", true)
  | 40 => ("GiftsOfCourtsModel", "carried", "[I", true)
  | 41 => ("GiftsOfCourtsModel", "diedBits", "I", false)
  | 42 => ("GiftsOfCourtsModel", "sums", "[I", true)
  | 43 => ("GiftsOfCourtsModel", "parts", "[I", true)
  | 44 => ("GiftsOfCourtsModel", "chain", "[I", true)
  | 45 => ("GiftsOfCourtsModel", "bestChain", "[I", true)
  | 46 => ("GiftsOfCourtsModel", "bestLong", "I", false)
  | 47 => ("GiftsOfCourtsModel", "heardMany", "I", false)
  | 48 => ("GiftsOfCourtsModel", "heardWhat", "[I", true)
  | 49 => ("GiftsOfCourtsModel", "heardOf", "[I", true)
  | 50 => ("GiftsOfCourtsModel", "wasCode", "[I", true)
  | 51 => ("GiftsOfCourtsModel", "random", "I", false)
  | 52 => ("GiftsOfCourtsModel", "isKept", "[Z", true)
  | 53 => ("GiftsOfCourtsModel", "keptChanges", "[I", true)
  | _ => ("GiftsOfCourtsModel", "kept", "[I", true)
def tyX11 : Nat → FieldType := fun k => match k with
  | 0 => .int
  | 1 => .int
  | 2 => .array .long
  | 3 => .int
  | 4 => .int
  | 5 => .int
  | 6 => .array .int
  | 7 => .array .int
  | 8 => .array .int
  | 9 => .array .int
  | 10 => .array .int
  | 11 => .array .int
  | 12 => .array .int
  | 13 => .array .int
  | 14 => .array .int
  | 15 => .int
  | 16 => .int
  | 17 => .int
  | 18 => .int
  | 19 => .array .int
  | 20 => .int
  | 21 => .array .int
  | 22 => .array .int
  | 23 => .int
  | 24 => .int
  | 25 => .array .int
  | 26 => .array .int
  | 27 => .int
  | 28 => .array .int
  | 29 => .int
  | 30 => .int
  | 31 => .array .int
  | 32 => .array .int
  | 33 => .array .int
  | 34 => .array .int
  | 35 => .int
  | 36 => .array .int
  | 37 => .array .int
  | 38 => .int
  | 39 => .array .int
  | 40 => .array .int
  | 41 => .int
  | 42 => .array .int
  | 43 => .array .int
  | 44 => .array .int
  | 45 => .array .int
  | 46 => .int
  | 47 => .int
  | 48 => .array .int
  | 49 => .array .int
  | 50 => .array .int
  | 51 => .int
  | 52 => .array .boolean
  | 53 => .array .int
  | _ => .array .int
abbrev wsX110 : List Cond := u_ws RX11 TX11 55
theorem nmX11 : ∀ a, a < 55 → ∀ b, b < 55 → a ≠ b → (TX11 a).2.1 ≠ (TX11 b).2.1 := by decide +kernel
theorem tyX11_ok : ∀ k, k < 55 → parseFieldDescriptor (TX11 k).2.2.1 = some (tyX11 k) := by decide +kernel
abbrev cX11_init : ByteArray := prog_13_method_1_code
def yX11_init : MethodName := ⟨RX11, "<init>", "()V"⟩
abbrev cX11_refuse : ByteArray := prog_13_method_3_code
def yX11_refuse : MethodName := ⟨RX11, "refuse", "()I"⟩
abbrev cX11_in : ByteArray := prog_13_method_4_code
def yX11_in : MethodName := ⟨RX11, "in", "(JJJ)Z"⟩
abbrev cX11_has : ByteArray := prog_13_method_5_code
def yX11_has : MethodName := ⟨RX11, "has", "(II)Z"⟩
abbrev cX11_flag : ByteArray := prog_13_method_6_code
def yX11_flag : MethodName := ⟨RX11, "flag", "(Z)I"⟩
abbrev cX11_common : ByteArray := prog_13_method_7_code
def yX11_common : MethodName := ⟨RX11, "common", "(JJ)J"⟩
abbrev cX11_enters : ByteArray := prog_13_method_8_code
def yX11_enters : MethodName := ⟨RX11, "enters", "(J)V"⟩
abbrev cX11_isCourt : ByteArray := prog_13_method_9_code
def yX11_isCourt : MethodName := ⟨RX11, "isCourt", "(I)Z"⟩
abbrev cX11_isGift : ByteArray := prog_13_method_10_code
def yX11_isGift : MethodName := ⟨RX11, "isGift", "(I)Z"⟩
abbrev cX11_arePair : ByteArray := prog_13_method_11_code
def yX11_arePair : MethodName := ⟨RX11, "arePair", "(II)Z"⟩
abbrev cX11_likes : ByteArray := prog_13_method_12_code
def yX11_likes : MethodName := ⟨RX11, "likes", "([III)I"⟩
abbrev cX11_owes : ByteArray := prog_13_method_13_code
def yX11_owes : MethodName := ⟨RX11, "owes", "([III)I"⟩
abbrev cX11_isDead : ByteArray := prog_13_method_14_code
def yX11_isDead : MethodName := ⟨RX11, "isDead", "([II)Z"⟩
abbrev cX11_giftsOf : ByteArray := prog_13_method_15_code
def yX11_giftsOf : MethodName := ⟨RX11, "giftsOf", "([II)I"⟩
abbrev cX11_areAllied : ByteArray := prog_13_method_16_code
def yX11_areAllied : MethodName := ⟨RX11, "areAllied", "([III)Z"⟩
abbrev cX11_areAtWar : ByteArray := prog_13_method_17_code
def yX11_areAtWar : MethodName := ⟨RX11, "areAtWar", "([III)Z"⟩
abbrev cX11_grainAll : ByteArray := prog_13_method_18_code
def yX11_grainAll : MethodName := ⟨RX11, "grainAll", "([I)I"⟩
abbrev cX11_sign : ByteArray := prog_13_method_19_code
def yX11_sign : MethodName := ⟨RX11, "sign", "(I)I"⟩
abbrev cX11_end : ByteArray := prog_13_method_20_code
def yX11_end : MethodName := ⟨RX11, "end", "(I)Z"⟩
abbrev cX11_begins : ByteArray := prog_13_method_21_code
def yX11_begins : MethodName := ⟨RX11, "begins", "(I)I"⟩
abbrev cX11_takes : ByteArray := prog_13_method_22_code
def yX11_takes : MethodName := ⟨RX11, "takes", "(I)Z"⟩
abbrev cX11_isDigit : ByteArray := prog_13_method_23_code
def yX11_isDigit : MethodName := ⟨RX11, "isDigit", "()Z"⟩
abbrev cX11_takesOf : ByteArray := prog_13_method_24_code
def yX11_takesOf : MethodName := ⟨RX11, "takesOf", "(Ljava/lang/String;)I"⟩
abbrev cX11_number : ByteArray := prog_13_method_25_code
def yX11_number : MethodName := ⟨RX11, "number", "(I)I"⟩
abbrev cX11_digitIn : ByteArray := prog_13_method_26_code
def yX11_digitIn : MethodName := ⟨RX11, "digitIn", "(II)I"⟩
abbrev cX11_faultOf : ByteArray := prog_13_method_27_code
def yX11_faultOf : MethodName := ⟨RX11, "faultOf", "(IIZ)I"⟩
abbrev cX11_readsCourt : ByteArray := prog_13_method_28_code
def yX11_readsCourt : MethodName := ⟨RX11, "readsCourt", "()Z"⟩
abbrev cX11_courts : ByteArray := prog_13_method_29_code
def yX11_courts : MethodName := ⟨RX11, "courts", "()I"⟩
abbrev cX11_comes : ByteArray := prog_13_method_30_code
def yX11_comes : MethodName := ⟨RX11, "comes", "(II)V"⟩
abbrev cX11_isNew : ByteArray := prog_13_method_31_code
def yX11_isNew : MethodName := ⟨RX11, "isNew", "()V"⟩
abbrev cX11_readsGift : ByteArray := prog_13_method_32_code
def yX11_readsGift : MethodName := ⟨RX11, "readsGift", "()Z"⟩
abbrev cX11_gifts : ByteArray := prog_13_method_33_code
def yX11_gifts : MethodName := ⟨RX11, "gifts", "()I"⟩
abbrev cX11_codes : ByteArray := prog_13_method_34_code
def yX11_codes : MethodName := ⟨RX11, "codes", "(I)V"⟩
abbrev cX11_readsThing : ByteArray := prog_13_method_35_code
def yX11_readsThing : MethodName := ⟨RX11, "readsThing", "()Z"⟩
abbrev cX11_readsRank : ByteArray := prog_13_method_36_code
def yX11_readsRank : MethodName := ⟨RX11, "readsRank", "(I)Z"⟩
abbrev cX11_readsRule : ByteArray := prog_13_method_37_code
def yX11_readsRule : MethodName := ⟨RX11, "readsRule", "()I"⟩
abbrev cX11_laysCode : ByteArray := prog_13_method_38_code
def yX11_laysCode : MethodName := ⟨RX11, "laysCode", "([II)V"⟩
abbrev cX11_rule : ByteArray := prog_13_method_39_code
def yX11_rule : MethodName := ⟨RX11, "rule", "()I"⟩
abbrev cX11_worked : ByteArray := prog_13_method_40_code
def yX11_worked : MethodName := ⟨RX11, "worked", "(III)I"⟩
abbrev cX11_ruled : ByteArray := prog_13_method_41_code
def yX11_ruled : MethodName := ⟨RX11, "ruled", "()I"⟩
abbrev cX11_valueOf : ByteArray := prog_13_method_42_code
def yX11_valueOf : MethodName := ⟨RX11, "valueOf", "([III)I"⟩
abbrev cX11_alliedTo : ByteArray := prog_13_method_43_code
def yX11_alliedTo : MethodName := ⟨RX11, "alliedTo", "(I)I"⟩
abbrev cX11_atWarWith : ByteArray := prog_13_method_44_code
def yX11_atWarWith : MethodName := ⟨RX11, "atWarWith", "(I)I"⟩
abbrev cX11_owesAll : ByteArray := prog_13_method_45_code
def yX11_owesAll : MethodName := ⟨RX11, "owesAll", "(I)I"⟩
abbrev cX11_owedAll : ByteArray := prog_13_method_46_code
def yX11_owedAll : MethodName := ⟨RX11, "owedAll", "(I)I"⟩
abbrev cX11_court : ByteArray := prog_13_method_47_code
def yX11_court : MethodName := ⟨RX11, "court", "(II)I"⟩
abbrev cX11_between : ByteArray := prog_13_method_48_code
def yX11_between : MethodName := ⟨RX11, "between", "(III)I"⟩
abbrev cX11_gift : ByteArray := prog_13_method_49_code
def yX11_gift : MethodName := ⟨RX11, "gift", "(II)I"⟩
abbrev cX11_road : ByteArray := prog_13_method_50_code
def yX11_road : MethodName := ⟨RX11, "road", "(III)I"⟩
abbrev cX11_sheet : ByteArray := prog_13_method_51_code
def yX11_sheet : MethodName := ⟨RX11, "sheet", "(IIII)I"⟩
abbrev cX11_putsBy : ByteArray := prog_13_method_52_code
def yX11_putsBy : MethodName := ⟨RX11, "putsBy", "()V"⟩
abbrev cX11_adds : ByteArray := prog_13_method_53_code
def yX11_adds : MethodName := ⟨RX11, "adds", "(I)I"⟩
abbrev cX11_counts : ByteArray := prog_13_method_54_code
def yX11_counts : MethodName := ⟨RX11, "counts", "(I)I"⟩
abbrev cX11_undo : ByteArray := prog_13_method_55_code
def yX11_undo : MethodName := ⟨RX11, "undo", "()I"⟩
abbrev cX11_grows : ByteArray := prog_13_method_56_code
def yX11_grows : MethodName := ⟨RX11, "grows", "([IIII)I"⟩
abbrev cX11_moved : ByteArray := prog_13_method_57_code
def yX11_moved : MethodName := ⟨RX11, "moved", "(II)I"⟩
abbrev cX11_sends : ByteArray := prog_13_method_58_code
def yX11_sends : MethodName := ⟨RX11, "sends", "([III)I"⟩
abbrev cX11_isHungry : ByteArray := prog_13_method_59_code
def yX11_isHungry : MethodName := ⟨RX11, "isHungry", "([II)Z"⟩
abbrev cX11_monthGoes : ByteArray := prog_13_method_60_code
def yX11_monthGoes : MethodName := ⟨RX11, "monthGoes", "([I)V"⟩
abbrev cX11_envoys : ByteArray := prog_13_method_61_code
def yX11_envoys : MethodName := ⟨RX11, "envoys", "(III)I"⟩
abbrev cX11_forgives : ByteArray := prog_13_method_62_code
def yX11_forgives : MethodName := ⟨RX11, "forgives", "(II)I"⟩
abbrev cX11_send : ByteArray := prog_13_method_63_code
def yX11_send : MethodName := ⟨RX11, "send", "(II)I"⟩
abbrev cX11_months : ByteArray := prog_13_method_64_code
def yX11_months : MethodName := ⟨RX11, "months", "(I)I"⟩
abbrev cX11_envoy : ByteArray := prog_13_method_65_code
def yX11_envoy : MethodName := ⟨RX11, "envoy", "(III)I"⟩
abbrev cX11_forgive : ByteArray := prog_13_method_66_code
def yX11_forgive : MethodName := ⟨RX11, "forgive", "(II)I"⟩
abbrev cX11_readsAct : ByteArray := prog_13_method_67_code
def yX11_readsAct : MethodName := ⟨RX11, "readsAct", "()Z"⟩
abbrev cX11_does : ByteArray := prog_13_method_68_code
def yX11_does : MethodName := ⟨RX11, "does", "(I)Z"⟩
abbrev cX11_year : ByteArray := prog_13_method_69_code
def yX11_year : MethodName := ⟨RX11, "year", "()I"⟩
abbrev cX11_copies : ByteArray := prog_13_method_70_code
def yX11_copies : MethodName := ⟨RX11, "copies", "()V"⟩
abbrev cX11_value : ByteArray := prog_13_method_71_code
def yX11_value : MethodName := ⟨RX11, "value", "(II)I"⟩
abbrev cX11_where : ByteArray := prog_13_method_72_code
def yX11_where : MethodName := ⟨RX11, "where", "(I)I"⟩
abbrev cX11_answer : ByteArray := prog_13_method_73_code
def yX11_answer : MethodName := ⟨RX11, "answer", "(II)I"⟩
abbrev cX11_winsBy : ByteArray := prog_13_method_74_code
def yX11_winsBy : MethodName := ⟨RX11, "winsBy", "(IIIII)V"⟩
abbrev cX11_wins : ByteArray := prog_13_method_75_code
def yX11_wins : MethodName := ⟨RX11, "wins", "(II)I"⟩
abbrev cX11_unseen : ByteArray := prog_13_method_76_code
def yX11_unseen : MethodName := ⟨RX11, "unseen", "(I)I"⟩
abbrev cX11_swaps : ByteArray := prog_13_method_77_code
def yX11_swaps : MethodName := ⟨RX11, "swaps", "()I"⟩
abbrev cX11_laysFar : ByteArray := prog_13_method_78_code
def yX11_laysFar : MethodName := ⟨RX11, "laysFar", "(I)V"⟩
abbrev cX11_way : ByteArray := prog_13_method_79_code
def yX11_way : MethodName := ⟨RX11, "way", "(II)I"⟩
abbrev cX11_walks : ByteArray := prog_13_method_80_code
def yX11_walks : MethodName := ⟨RX11, "walks", "(IIII)I"⟩
abbrev cX11_alive : ByteArray := prog_13_method_81_code
def yX11_alive : MethodName := ⟨RX11, "alive", "(III)I"⟩
abbrev cX11_diesIn : ByteArray := prog_13_method_82_code
def yX11_diesIn : MethodName := ⟨RX11, "diesIn", "(I)I"⟩
abbrev cX11_feeds : ByteArray := prog_13_method_83_code
def yX11_feeds : MethodName := ⟨RX11, "feeds", "(I)I"⟩
abbrev cX11_starves : ByteArray := prog_13_method_84_code
def yX11_starves : MethodName := ⟨RX11, "starves", "(II)I"⟩
abbrev cX11_net : ByteArray := prog_13_method_85_code
def yX11_net : MethodName := ⟨RX11, "net", "(I)I"⟩
abbrev cX11_settle : ByteArray := prog_13_method_86_code
def yX11_settle : MethodName := ⟨RX11, "settle", "()I"⟩
abbrev cX11_rings : ByteArray := prog_13_method_87_code
def yX11_rings : MethodName := ⟨RX11, "rings", "(II)V"⟩
abbrev cX11_ring : ByteArray := prog_13_method_88_code
def yX11_ring : MethodName := ⟨RX11, "ring", "()I"⟩
abbrev cX11_likedBy : ByteArray := prog_13_method_89_code
def yX11_likedBy : MethodName := ⟨RX11, "likedBy", "(I)I"⟩
abbrev cX11_ranks : ByteArray := prog_13_method_90_code
def yX11_ranks : MethodName := ⟨RX11, "ranks", "()I"⟩
abbrev cX11_league : ByteArray := prog_13_method_91_code
def yX11_league : MethodName := ⟨RX11, "league", "()I"⟩
abbrev cX11_heard : ByteArray := prog_13_method_92_code
def yX11_heard : MethodName := ⟨RX11, "heard", "(II)I"⟩
abbrev cX11_forget : ByteArray := prog_13_method_93_code
def yX11_forget : MethodName := ⟨RX11, "forget", "()I"⟩
abbrev cX11_isSo : ByteArray := prog_13_method_94_code
def yX11_isSo : MethodName := ⟨RX11, "isSo", "(III)Z"⟩
abbrev cX11_fitting : ByteArray := prog_13_method_95_code
def yX11_fitting : MethodName := ⟨RX11, "fitting", "()I"⟩
abbrev cX11_fits : ByteArray := prog_13_method_96_code
def yX11_fits : MethodName := ⟨RX11, "fits", "()I"⟩
abbrev cX11_ask : ByteArray := prog_13_method_97_code
def yX11_ask : MethodName := ⟨RX11, "ask", "()I"⟩
abbrev cX11_valueAll : ByteArray := prog_13_method_98_code
def yX11_valueAll : MethodName := ⟨RX11, "valueAll", "()I"⟩
abbrev cX11_law : ByteArray := prog_13_method_99_code
def yX11_law : MethodName := ⟨RX11, "law", "()I"⟩
abbrev cX11_earns : ByteArray := prog_13_method_100_code
def yX11_earns : MethodName := ⟨RX11, "earns", "(III)I"⟩
abbrev cX11_isRest : ByteArray := prog_13_method_101_code
def yX11_isRest : MethodName := ⟨RX11, "isRest", "(III)Z"⟩
abbrev cX11_rests : ByteArray := prog_13_method_102_code
def yX11_rests : MethodName := ⟨RX11, "rests", "(I)I"⟩
abbrev cX11_draws : ByteArray := prog_13_method_103_code
def yX11_draws : MethodName := ⟨RX11, "draws", "(I)I"⟩
abbrev cX11_years : ByteArray := prog_13_method_104_code
def yX11_years : MethodName := ⟨RX11, "years", "(II)I"⟩
abbrev cX11_keep : ByteArray := prog_13_method_105_code
def yX11_keep : MethodName := ⟨RX11, "keep", "(I)Z"⟩
abbrev cX11_again : ByteArray := prog_13_method_106_code
def yX11_again : MethodName := ⟨RX11, "again", "(I)Z"⟩
abbrev cX11_pairMany : ByteArray := prog_13_method_107_code
def yX11_pairMany : MethodName := ⟨RX11, "pairMany", "(I)I"⟩
abbrev cX11_count : ByteArray := prog_13_method_108_code
def yX11_count : MethodName := ⟨RX11, "count", "(I)I"⟩
abbrev cX11_row : ByteArray := prog_13_method_109_code
def yX11_row : MethodName := ⟨RX11, "row", "(I)J"⟩
abbrev cJ6_numberOfTrailingZeros_0f7a4 : ByteArray := prog_18_method_48_code
def yJ6_numberOfTrailingZeros_0f7a4 : MethodName := ⟨"java/lang/Integer", "numberOfTrailingZeros", "(I)I"⟩
abbrev cJ6_bitCount_0f7a4 : ByteArray := prog_18_method_49_code
def yJ6_bitCount_0f7a4 : MethodName := ⟨"java/lang/Integer", "bitCount", "(I)I"⟩
abbrev vwCl : List vw_C := [(RX0, TX0, 4), (RX1, TX1, 4), (RX2, TX2, 3), (RX3, TX3, 9), (RX4, TX4, 3), (RX5, TX5, 2), (RX6, TX6, 6), (RX7, TX7, 7), (RX8, TX8, 2), (RX9, TX9, 8), (RX10, TX10, 14), (RX11, TX11, 55)]
end MH00listsx3
section MH00listsx4
/-! the instructions, by places, in rows of sixteen -/
def im_0 : List (List (Nat × Instr × Nat)) := [[(0, .aload_n 0, 1), (1, .invokespecial 3, 3), (4, .aload_n 0, 1), (5, .bipush 12, 2), (7, .newarray .int, 2), (9, .putfield 9, 3), (12, .aload_n 0, 1), (13, .bipush 12, 2), (15, .newarray .int, 2)], [(17, .putfield 15, 3), (20, .aload_n 0, 1), (21, .aload_n 1, 1), (22, .putfield 18, 3), (25, .return_, 1)]]
def im_1 : List (List (Nat × Instr × Nat)) := [[(0, .aload_n 0, 1), (1, .getfield 22, 3), (4, .bipush 12, 2), (6, .if_icmp .ge 11, 3), (9, .iload_n 1, 1), (10, .iload_n 2, 1), (11, .invokestatic 26, 3), (14, .ifCond .ne 5, 3)], [(17, .iconst 0, 1), (18, .ireturn, 1), (19, .aload_n 0, 1), (20, .getfield 9, 3), (23, .aload_n 0, 1), (24, .getfield 22, 3), (27, .iload_n 1, 1), (28, .iastore, 1), (29, .aload_n 0, 1), (30, .getfield 15, 3)], [(33, .aload_n 0, 1), (34, .getfield 22, 3), (37, .iload_n 2, 1), (38, .iastore, 1), (39, .aload_n 0, 1), (40, .dup, 1), (41, .getfield 22, 3), (44, .iconst 1, 1), (45, .iadd, 1), (46, .putfield 22, 3)], [(49, .iconst 1, 1), (50, .ireturn, 1)]]
def im_2 : List (List (Nat × Instr × Nat)) := [[(0, .iload_n 0, 1), (1, .tableswitch 94 0 3 #[31, 46, 63, 79], 31)], [], [(32, .iload_n 1, 1), (33, .ifCond .lt 12, 3), (36, .iload_n 1, 1), (37, .iconst 5, 1), (38, .if_icmp .ge 7, 3), (41, .iconst 1, 1), (42, .goto 4, 3), (45, .iconst 0, 1), (46, .ireturn, 1), (47, .iload_n 1, 1)], [(48, .iconst 1, 1), (49, .if_icmp .lt 13, 3), (52, .iload_n 1, 1), (53, .bipush 99, 2), (55, .if_icmp .gt 7, 3), (58, .iconst 1, 1), (59, .goto 4, 3), (62, .iconst 0, 1), (63, .ireturn, 1)], [(64, .iload_n 1, 1), (65, .ifCond .lt 13, 3), (68, .iload_n 1, 1), (69, .bipush 6, 2), (71, .if_icmp .ge 7, 3), (74, .iconst 1, 1), (75, .goto 4, 3), (78, .iconst 0, 1), (79, .ireturn, 1)], [(80, .iload_n 1, 1), (81, .ifCond .eq 8, 3), (84, .iload_n 1, 1), (85, .iconst 1, 1), (86, .if_icmp .ne 7, 3), (89, .iconst 1, 1), (90, .goto 4, 3), (93, .iconst 0, 1), (94, .ireturn, 1), (95, .iconst 0, 1)], [(96, .ireturn, 1)]]
def im_3 : List (List (Nat × Instr × Nat)) := [[(0, .iconst 0, 1), (1, .istore_n 2, 1), (2, .iconst 0, 1), (3, .istore_n 3, 1), (4, .iload_n 3, 1), (5, .aload_n 0, 1), (6, .getfield 18, 3), (9, .getfield 30, 3), (12, .if_icmp .ge 24, 3), (15, .aload_n 0, 1)], [(16, .aload_n 1, 1), (17, .iload_n 3, 1), (18, .invokevirtual 35, 3), (21, .ifCond .eq 9, 3), (24, .iload_n 2, 1), (25, .iconst 1, 1), (26, .iload_n 3, 1), (27, .ishl, 1), (28, .ior, 1), (29, .istore_n 2, 1), (30, .iinc 3 1, 3)], [(33, .goto (-29), 3), (36, .iload_n 2, 1), (37, .ireturn, 1)]]
def im_4 : List (List (Nat × Instr × Nat)) := [[(0, .iconst 0, 1), (1, .istore_n 3, 1), (2, .iload_n 3, 1), (3, .aload_n 0, 1), (4, .getfield 22, 3), (7, .if_icmp .ge 32, 3), (10, .aload_n 0, 1), (11, .aload_n 1, 1), (12, .iload_n 2, 1), (13, .aload_n 0, 1), (14, .getfield 9, 3)], [(17, .iload_n 3, 1), (18, .iaload, 1), (19, .aload_n 0, 1), (20, .getfield 15, 3), (23, .iload_n 3, 1), (24, .iaload, 1), (25, .invokevirtual 39, 3), (28, .ifCond .ne 5, 3), (31, .iconst 0, 1)], [(32, .ireturn, 1), (33, .iinc 3 1, 3), (36, .goto (-34), 3), (39, .iconst 1, 1), (40, .ireturn, 1)]]
def im_5 : List (List (Nat × Instr × Nat)) := [[(0, .iload_n 3, 1), (1, .tableswitch 75 0 2 #[27, 47, 67], 27)], [(28, .aload_n 0, 1), (29, .getfield 18, 3)], [(32, .getfield 43, 3), (35, .iload_n 2, 1), (36, .iaload, 1), (37, .iload 4, 2), (39, .if_icmp .ne 7, 3), (42, .iconst 1, 1), (43, .goto 4, 3), (46, .iconst 0, 1), (47, .ireturn, 1)], [(48, .aload_n 0, 1), (49, .getfield 18, 3), (52, .getfield 46, 3), (55, .iload_n 2, 1), (56, .iaload, 1), (57, .iload 4, 2), (59, .if_icmp .lt 7, 3), (62, .iconst 1, 1), (63, .goto 4, 3)], [(66, .iconst 0, 1), (67, .ireturn, 1), (68, .aload_n 1, 1), (69, .iload_n 2, 1), (70, .iload 4, 2), (72, .invokevirtual 49, 3), (75, .ireturn, 1), (76, .aload_n 1, 1), (77, .iload_n 2, 1), (78, .invokevirtual 54, 3)], [(81, .iload 4, 2), (83, .iconst 1, 1), (84, .if_icmp .ne 7, 3), (87, .iconst 1, 1), (88, .goto 4, 3), (91, .iconst 0, 1), (92, .if_icmp .ne 7, 3), (95, .iconst 1, 1)], [(96, .goto 4, 3), (99, .iconst 0, 1), (100, .ireturn, 1)]]
def im_6 : List (List (Nat × Instr × Nat)) := [[(0, .aload_n 0, 1), (1, .invokespecial 3, 3), (4, .aload_n 0, 1), (5, .bipush 6, 2), (7, .newarray .int, 2), (9, .putfield 9, 3), (12, .aload_n 0, 1), (13, .bipush 6, 2), (15, .newarray .int, 2)], [(17, .putfield 15, 3), (20, .aload_n 0, 1), (21, .bipush 64, 2), (23, .newarray .int, 2), (25, .putfield 18, 3), (28, .aload_n 0, 1), (29, .aload_n 1, 1), (30, .putfield 21, 3)], [(33, .return_, 1)]]
def im_7 : List (List (Nat × Instr × Nat)) := [[(0, .iconst 0, 1), (1, .istore_n 3, 1), (2, .iconst 0, 1), (3, .istore 4, 2), (5, .iload 4, 2), (7, .aload_n 0, 1), (8, .getfield 21, 3), (11, .getfield 25, 3), (14, .if_icmp .ge 23, 3)], [(17, .iload_n 3, 1), (18, .aload_n 1, 1), (19, .getfield 31, 3), (22, .iload_n 2, 1), (23, .iload 4, 2), (25, .invokestatic 36, 3), (28, .iaload, 1), (29, .iadd, 1), (30, .istore_n 3, 1), (31, .iinc 4 1, 3)], [(34, .goto (-29), 3), (37, .iload_n 3, 1), (38, .ireturn, 1)]]
def im_8 : List (List (Nat × Instr × Nat)) := [[(0, .iconst 0, 1), (1, .istore_n 3, 1), (2, .iconst 0, 1), (3, .istore 4, 2), (5, .iload 4, 2), (7, .aload_n 0, 1), (8, .getfield 21, 3), (11, .getfield 25, 3), (14, .if_icmp .ge 23, 3)], [(17, .iload_n 3, 1), (18, .aload_n 1, 1), (19, .getfield 31, 3), (22, .iload 4, 2), (24, .iload_n 2, 1), (25, .invokestatic 36, 3), (28, .iaload, 1), (29, .iadd, 1), (30, .istore_n 3, 1), (31, .iinc 4 1, 3)], [(34, .goto (-29), 3), (37, .iload_n 3, 1), (38, .ireturn, 1)]]
def im_9 : List (List (Nat × Instr × Nat)) := [[(0, .iconst 0, 1), (1, .istore_n 2, 1), (2, .iconst 0, 1), (3, .istore_n 3, 1), (4, .iload_n 3, 1), (5, .aload_n 0, 1), (6, .getfield 21, 3), (9, .getfield 25, 3), (12, .if_icmp .ge 18, 3), (15, .iload_n 2, 1)], [(16, .aload_n 0, 1), (17, .aload_n 1, 1), (18, .iload_n 3, 1), (19, .invokevirtual 40, 3), (22, .iadd, 1), (23, .istore_n 2, 1), (24, .iinc 3 1, 3), (27, .goto (-23), 3), (30, .iload_n 2, 1), (31, .ireturn, 1)]]
def im_10 : List (List (Nat × Instr × Nat)) := [[(0, .iconst 0, 1), (1, .istore_n 2, 1), (2, .iconst 0, 1), (3, .istore_n 3, 1), (4, .iload_n 3, 1), (5, .aload_n 0, 1), (6, .getfield 21, 3), (9, .getfield 25, 3), (12, .if_icmp .ge 40, 3), (15, .aload_n 0, 1)], [(16, .aload_n 1, 1), (17, .iload_n 3, 1), (18, .invokevirtual 44, 3), (21, .aload_n 0, 1), (22, .aload_n 1, 1), (23, .iload_n 3, 1), (24, .invokevirtual 40, 3), (27, .isub, 1), (28, .istore 4, 2), (30, .iload 4, 2)], [(32, .ifCond .eq 14, 3), (35, .aload_n 0, 1), (36, .getfield 15, 3), (39, .iload_n 2, 1), (40, .iload 4, 2), (42, .iastore, 1), (43, .iinc 2 1, 3), (46, .iinc 3 1, 3)], [(49, .goto (-45), 3), (52, .iload_n 2, 1), (53, .ireturn, 1)]]
def im_11 : List (List (Nat × Instr × Nat)) := [[(0, .aload_n 0, 1), (1, .getfield 18, 3), (4, .iconst 0, 1), (5, .iconst 0, 1), (6, .iastore, 1), (7, .iconst 1, 1), (8, .istore_n 2, 1), (9, .iload_n 2, 1), (10, .iconst 1, 1), (11, .iload_n 1, 1), (12, .ishl, 1), (13, .if_icmp .ge 95, 3)], [(16, .iload_n 2, 1), (17, .aload_n 0, 1), (18, .getfield 18, 3), (21, .arraylength, 1), (22, .if_icmp .ge 86, 3), (25, .iconst 0, 1), (26, .istore_n 3, 1), (27, .iconst 0, 1), (28, .istore 4, 2), (30, .iconst 0, 1), (31, .istore 5, 2)], [(33, .iload 5, 2), (35, .iload_n 1, 1), (36, .if_icmp .ge 48, 3), (39, .iload_n 2, 1), (40, .iload 5, 2), (42, .ishr, 1), (43, .iconst 1, 1), (44, .iand, 1), (45, .ifCond .eq 33, 3)], [(48, .iload_n 3, 1), (49, .aload_n 0, 1), (50, .getfield 18, 3), (53, .iload_n 2, 1), (54, .iconst 1, 1), (55, .iload 5, 2), (57, .ishl, 1), (58, .iconst (-1), 1), (59, .ixor, 1), (60, .iand, 1), (61, .iaload, 1), (62, .invokestatic 47, 3)], [(65, .istore_n 3, 1), (66, .iload 4, 2), (68, .aload_n 0, 1), (69, .getfield 15, 3), (72, .iload 5, 2), (74, .iaload, 1), (75, .iadd, 1), (76, .istore 4, 2), (78, .iinc 5 1, 3)], [(81, .goto (-48), 3), (84, .aload_n 0, 1), (85, .getfield 18, 3), (88, .iload_n 2, 1), (89, .iload 4, 2), (91, .ifCond .ne 9, 3), (94, .iload_n 3, 1), (95, .iconst 1, 1)], [(96, .iadd, 1), (97, .goto 4, 3), (100, .iload_n 3, 1), (101, .iastore, 1), (102, .iinc 2 1, 3), (105, .goto (-96), 3), (108, .iload_n 1, 1), (109, .aload_n 0, 1), (110, .getfield 18, 3)], [(113, .iconst 1, 1), (114, .iload_n 1, 1), (115, .ishl, 1), (116, .iconst 1, 1), (117, .isub, 1), (118, .iaload, 1), (119, .isub, 1), (120, .ireturn, 1)]]
def im_12 : List (List (Nat × Instr × Nat)) := [[(0, .iconst 2, 1), (1, .istore_n 2, 1), (2, .iload_n 2, 1), (3, .aload_n 0, 1), (4, .getfield 21, 3), (7, .getfield 25, 3), (10, .if_icmp .gt 50, 3), (13, .iconst 0, 1), (14, .istore_n 3, 1), (15, .iload_n 3, 1)], [(16, .aload_n 0, 1), (17, .getfield 21, 3), (20, .getfield 25, 3), (23, .if_icmp .ge 31, 3), (26, .aload_n 0, 1), (27, .getfield 9, 3), (30, .iconst 0, 1), (31, .iload_n 3, 1)], [(32, .iastore, 1), (33, .aload_n 0, 1), (34, .aload_n 1, 1), (35, .iload_n 2, 1), (36, .iconst 1, 1), (37, .iconst 1, 1), (38, .iload_n 3, 1), (39, .ishl, 1), (40, .invokevirtual 52, 3), (43, .ifCond .eq 5, 3), (46, .iload_n 2, 1), (47, .ireturn, 1)], [(48, .iinc 3 1, 3), (51, .goto (-36), 3), (54, .iinc 2 1, 3), (57, .goto (-55), 3), (60, .iconst (-1), 1), (61, .ireturn, 1)]]
def im_13 : List (List (Nat × Instr × Nat)) := [[(0, .iload_n 3, 1), (1, .iconst 1, 1), (2, .if_icmp .lt 9, 3), (5, .iload_n 3, 1), (6, .bipush 6, 2), (8, .if_icmp .le 5, 3), (11, .iconst 0, 1), (12, .ireturn, 1), (13, .aload_n 0, 1), (14, .getfield 9, 3)], [(17, .iload_n 3, 1), (18, .iconst 1, 1), (19, .isub, 1), (20, .iaload, 1), (21, .istore 5, 2), (23, .iload_n 3, 1), (24, .iload_n 2, 1), (25, .if_icmp .lt 28, 3), (28, .aload_n 1, 1), (29, .getfield 31, 3)], [(32, .iload 5, 2), (34, .aload_n 0, 1), (35, .getfield 9, 3), (38, .iconst 0, 1), (39, .iaload, 1), (40, .invokestatic 36, 3), (43, .iaload, 1), (44, .ifCond .le 7, 3), (47, .iconst 1, 1)], [(48, .goto 4, 3), (51, .iconst 0, 1), (52, .ireturn, 1), (53, .aload_n 0, 1), (54, .getfield 9, 3), (57, .iconst 0, 1), (58, .iaload, 1), (59, .iconst 1, 1), (60, .iadd, 1), (61, .istore 6, 2), (63, .iload 6, 2)], [(65, .aload_n 0, 1), (66, .getfield 21, 3), (69, .getfield 25, 3), (72, .if_icmp .ge 63, 3), (75, .iload 4, 2), (77, .iload 6, 2), (79, .ishr, 1)], [(80, .iconst 1, 1), (81, .iand, 1), (82, .ifCond .ne 47, 3), (85, .aload_n 1, 1), (86, .getfield 31, 3), (89, .iload 5, 2), (91, .iload 6, 2), (93, .invokestatic 36, 3)], [(96, .iaload, 1), (97, .ifCond .le 32, 3), (100, .aload_n 0, 1), (101, .getfield 9, 3), (104, .iload_n 3, 1), (105, .iload 6, 2), (107, .iastore, 1), (108, .aload_n 0, 1), (109, .aload_n 1, 1), (110, .iload_n 2, 1), (111, .iload_n 3, 1)], [(112, .iconst 1, 1), (113, .iadd, 1), (114, .iload 4, 2), (116, .iconst 1, 1), (117, .iload 6, 2), (119, .ishl, 1), (120, .ior, 1), (121, .invokevirtual 52, 3), (124, .ifCond .eq 5, 3), (127, .iconst 1, 1)], [(128, .ireturn, 1), (129, .iinc 6 1, 3), (132, .goto (-69), 3), (135, .iconst 0, 1), (136, .ireturn, 1)]]
def im_14 : List (List (Nat × Instr × Nat)) := [[(0, .sipush 9999, 3), (3, .istore_n 3, 1), (4, .iconst 0, 1), (5, .istore 4, 2), (7, .iload 4, 2), (9, .iload_n 2, 1), (10, .if_icmp .ge 75, 3), (13, .iload 4, 2), (15, .bipush 6, 2)], [(17, .if_icmp .ge 68, 3), (20, .iload 4, 2), (22, .iconst 1, 1), (23, .iadd, 1), (24, .iload_n 2, 1), (25, .if_icmp .ge 24, 3), (28, .iload 4, 2), (30, .iconst 1, 1), (31, .iadd, 1)], [(32, .bipush 6, 2), (34, .if_icmp .ge 15, 3), (37, .aload_n 0, 1), (38, .getfield 9, 3), (41, .iload 4, 2), (43, .iconst 1, 1), (44, .iadd, 1), (45, .iaload, 1), (46, .goto 9, 3)], [(49, .aload_n 0, 1), (50, .getfield 9, 3), (53, .iconst 0, 1), (54, .iaload, 1), (55, .istore 5, 2), (57, .iload_n 3, 1), (58, .aload_n 1, 1), (59, .getfield 31, 3), (62, .aload_n 0, 1), (63, .getfield 9, 3)], [(66, .iload 4, 2), (68, .iaload, 1), (69, .iload 5, 2), (71, .invokestatic 36, 3), (74, .iaload, 1), (75, .invokestatic 56, 3), (78, .istore_n 3, 1), (79, .iinc 4 1, 3)], [(82, .goto (-75), 3), (85, .iload_n 3, 1), (86, .ireturn, 1)]]
def im_15 : List (List (Nat × Instr × Nat)) := [[(0, .aload_n 0, 1), (1, .invokespecial 3, 3), (4, .aload_n 0, 1), (5, .bipush 16, 2), (7, .anewarray 9, 3), (10, .putfield 11, 3), (13, .iconst 0, 1), (14, .istore_n 1, 1), (15, .iload_n 1, 1)], [(16, .bipush 15, 2), (18, .if_icmp .gt 22, 3), (21, .aload_n 0, 1), (22, .getfield 11, 3), (25, .iload_n 1, 1), (26, .new 9, 3), (29, .dup, 1), (30, .invokespecial 17, 3)], [(33, .aastore, 1), (34, .iinc 1 1, 3), (37, .goto (-22), 3), (40, .return_, 1)]]
def im_16 : List (List (Nat × Instr × Nat)) := [[(0, .aload_n 0, 1), (1, .getfield 11, 3), (4, .aload_n 0, 1), (5, .aload_n 0, 1), (6, .getfield 18, 3), (9, .invokevirtual 22, 3), (12, .aaload, 1), (13, .aload_n 1, 1), (14, .invokevirtual 26, 3)], [(17, .return_, 1)]]
def im_17 : List (List (Nat × Instr × Nat)) := [[(0, .aload_n 0, 1), (1, .getfield 18, 3), (4, .bipush 15, 2), (6, .if_icmp .ge 16, 3), (9, .aload_n 0, 1), (10, .dup, 1), (11, .getfield 18, 3), (14, .iconst 1, 1), (15, .iadd, 1)], [(16, .putfield 18, 3), (19, .goto 12, 3), (22, .aload_n 0, 1), (23, .aload_n 0, 1), (24, .iconst 1, 1), (25, .invokevirtual 22, 3), (28, .putfield 30, 3), (31, .return_, 1)]]
def im_18 : List (List (Nat × Instr × Nat)) := [[(0, .aload_n 0, 1), (1, .aload_n 1, 1), (2, .invokevirtual 33, 3), (5, .aload_n 0, 1), (6, .invokevirtual 36, 3), (9, .return_, 1)]]
def im_19 : List (List (Nat × Instr × Nat)) := [[(0, .aload_n 0, 1), (1, .getfield 18, 3), (4, .ifCond .ne 5, 3), (7, .iconst 0, 1), (8, .ireturn, 1), (9, .aload_n 0, 1), (10, .dup, 1), (11, .getfield 18, 3), (14, .iconst 1, 1), (15, .isub, 1)], [(16, .putfield 18, 3), (19, .aload_n 1, 1), (20, .aload_n 0, 1), (21, .getfield 11, 3), (24, .aload_n 0, 1), (25, .aload_n 0, 1), (26, .getfield 18, 3), (29, .invokevirtual 22, 3)], [(32, .aaload, 1), (33, .invokevirtual 26, 3), (36, .iconst 1, 1), (37, .ireturn, 1)]]
def im_20 : List (List (Nat × Instr × Nat)) := [[(0, .aload_n 0, 1), (1, .iconst 0, 1), (2, .putfield 18, 3), (5, .return_, 1)]]
def im_21 : List (List (Nat × Instr × Nat)) := [[(0, .aload_n 0, 1), (1, .getfield 30, 3), (4, .iload_n 1, 1), (5, .iadd, 1), (6, .bipush 16, 2), (8, .irem, 1), (9, .ireturn, 1)]]
def im_22 : List (List (Nat × Instr × Nat)) := [[(0, .aload_n 0, 1), (1, .invokespecial 3, 3), (4, .aload_n 0, 1), (5, .bipush 6, 2), (7, .newarray .int, 2), (9, .putfield 9, 3), (12, .aload_n 0, 1), (13, .bipush 30, 2), (15, .newarray .int, 2)], [(17, .putfield 15, 3), (20, .aload_n 0, 1), (21, .bipush 36, 2), (23, .newarray .int, 2), (25, .putfield 18, 3), (28, .aload_n 0, 1), (29, .bipush 8, 2), (31, .newarray .int, 2)], [(33, .putfield 21, 3), (36, .aload_n 0, 1), (37, .bipush 8, 2), (39, .newarray .int, 2), (41, .putfield 24, 3), (44, .aload_n 0, 1), (45, .bipush 8, 2), (47, .newarray .int, 2)], [(49, .putfield 27, 3), (52, .aload_n 0, 1), (53, .bipush 7, 2), (55, .newarray .int, 2), (57, .putfield 32, 3), (60, .return_, 1)]]
def im_23 : List (List (Nat × Instr × Nat)) := [[(0, .iload_n 1, 1), (1, .ifCond .lt 15, 3), (4, .iload_n 1, 1), (5, .aload_n 0, 1), (6, .getfield 35, 3), (9, .if_icmp .ge 7, 3), (12, .iconst 1, 1), (13, .goto 4, 3)], [(16, .iconst 0, 1), (17, .ireturn, 1)]]
def im_24 : List (List (Nat × Instr × Nat)) := [[(0, .aload_n 0, 1), (1, .iload_n 1, 1), (2, .invokevirtual 39, 3), (5, .ifCond .eq 20, 3), (8, .aload_n 0, 1), (9, .iload_n 2, 1), (10, .invokevirtual 39, 3), (13, .ifCond .eq 12, 3)], [(16, .iload_n 1, 1), (17, .iload_n 2, 1), (18, .if_icmp .eq 7, 3), (21, .iconst 1, 1), (22, .goto 4, 3), (25, .iconst 0, 1), (26, .ireturn, 1)]]
def im_25 : List (List (Nat × Instr × Nat)) := [[(0, .iload_n 1, 1), (1, .ifCond .lt 15, 3), (4, .iload_n 1, 1), (5, .aload_n 0, 1), (6, .getfield 43, 3), (9, .if_icmp .ge 7, 3), (12, .iconst 1, 1), (13, .goto 4, 3)], [(16, .iconst 0, 1), (17, .ireturn, 1)]]
def im_26 : List (List (Nat × Instr × Nat)) := [[(0, .iload_n 2, 1), (1, .ifCond .ne 13, 3), (4, .aload_n 0, 1), (5, .getfield 9, 3), (8, .iload_n 1, 1), (9, .iload_n 3, 1), (10, .iastore, 1), (11, .goto 16, 3), (14, .aload_n 0, 1), (15, .getfield 15, 3)], [(18, .iload_n 1, 1), (19, .iconst 5, 1), (20, .imul, 1), (21, .iload_n 2, 1), (22, .iadd, 1), (23, .iconst 1, 1), (24, .isub, 1), (25, .iload_n 3, 1), (26, .iastore, 1), (27, .return_, 1)]]
def im_27 : List (List (Nat × Instr × Nat)) := [[(0, .aload_n 0, 1), (1, .getfield 21, 3), (4, .iload_n 1, 1), (5, .iload_n 2, 1), (6, .iastore, 1), (7, .aload_n 0, 1), (8, .getfield 24, 3), (11, .iload_n 1, 1), (12, .iload_n 3, 1), (13, .iastore, 1), (14, .aload_n 0, 1), (15, .getfield 27, 3)], [(18, .iload_n 1, 1), (19, .iload 4, 2), (21, .iastore, 1), (22, .return_, 1)]]
def im_28 : List (List (Nat × Instr × Nat)) := [[(0, .aload_n 0, 1), (1, .getfield 15, 3), (4, .iload_n 1, 1), (5, .iconst 5, 1), (6, .imul, 1), (7, .iload_n 2, 1), (8, .iadd, 1), (9, .iaload, 1), (10, .ireturn, 1)]]
def im_29 : List (List (Nat × Instr × Nat)) := [[(0, .iconst 0, 1), (1, .istore_n 3, 1), (2, .iconst 0, 1), (3, .istore 4, 2), (5, .iload 4, 2), (7, .aload_n 0, 1), (8, .getfield 43, 3), (11, .if_icmp .ge 27, 3), (14, .aload_n 1, 1), (15, .getfield 46, 3)], [(18, .iload 4, 2), (20, .iaload, 1), (21, .iload_n 2, 1), (22, .if_icmp .ne 10, 3), (25, .iload_n 3, 1), (26, .iconst 1, 1), (27, .iload 4, 2), (29, .ishl, 1), (30, .ior, 1), (31, .istore_n 3, 1)], [(32, .iinc 4 1, 3), (35, .goto (-30), 3), (38, .iload_n 3, 1), (39, .ireturn, 1)]]
def im_30 : List (List (Nat × Instr × Nat)) := [[(0, .iconst 0, 1), (1, .istore_n 3, 1), (2, .iconst 0, 1), (3, .istore 4, 2), (5, .iload 4, 2), (7, .aload_n 0, 1), (8, .getfield 43, 3), (11, .if_icmp .ge 26, 3), (14, .aload_n 1, 1), (15, .iload 4, 2)], [(17, .iload_n 2, 1), (18, .invokevirtual 51, 3), (21, .ifCond .eq 10, 3), (24, .iload_n 3, 1), (25, .iconst 1, 1), (26, .iload 4, 2), (28, .ishl, 1), (29, .ior, 1), (30, .istore_n 3, 1), (31, .iinc 4 1, 3)], [(34, .goto (-29), 3), (37, .iload_n 3, 1), (38, .ireturn, 1)]]
def im_31 : List (List (Nat × Instr × Nat)) := [[(0, .iconst 0, 1), (1, .istore_n 3, 1), (2, .iconst 0, 1), (3, .istore 4, 2), (5, .iload 4, 2), (7, .aload_n 0, 1), (8, .getfield 35, 3), (11, .if_icmp .ge 66, 3), (14, .aload_n 1, 1), (15, .getfield 55, 3)], [(18, .iload_n 2, 1), (19, .iload 4, 2), (21, .invokestatic 58, 3), (24, .iaload, 1), (25, .bipush 15, 2), (27, .if_icmp .lt 23, 3), (30, .aload_n 1, 1), (31, .getfield 55, 3)], [(34, .iload 4, 2), (36, .iload_n 2, 1), (37, .invokestatic 58, 3), (40, .iaload, 1), (41, .bipush 15, 2), (43, .if_icmp .lt 7, 3), (46, .iconst 1, 1), (47, .goto 4, 3)], [(50, .iconst 0, 1), (51, .istore 5, 2), (53, .iload 4, 2), (55, .iload_n 2, 1), (56, .if_icmp .eq 15, 3), (59, .iload 5, 2), (61, .ifCond .eq 10, 3)], [(64, .iload_n 3, 1), (65, .iconst 1, 1), (66, .iload 4, 2), (68, .ishl, 1), (69, .ior, 1), (70, .istore_n 3, 1), (71, .iinc 4 1, 3), (74, .goto (-69), 3), (77, .iload_n 3, 1), (78, .ireturn, 1)]]
def im_32 : List (List (Nat × Instr × Nat)) := [[(0, .iconst 0, 1), (1, .istore_n 3, 1), (2, .iconst 0, 1), (3, .istore 4, 2), (5, .iload 4, 2), (7, .aload_n 0, 1), (8, .getfield 35, 3), (11, .if_icmp .ge 62, 3), (14, .aload_n 1, 1), (15, .getfield 55, 3)], [(18, .iload_n 2, 1), (19, .iload 4, 2), (21, .invokestatic 58, 3), (24, .iaload, 1), (25, .ifCond .eq 17, 3), (28, .aload_n 1, 1), (29, .getfield 55, 3)], [(32, .iload 4, 2), (34, .iload_n 2, 1), (35, .invokestatic 58, 3), (38, .iaload, 1), (39, .ifCond .ne 7, 3), (42, .iconst 1, 1), (43, .goto 4, 3), (46, .iconst 0, 1), (47, .istore 5, 2)], [(49, .iload 4, 2), (51, .iload_n 2, 1), (52, .if_icmp .eq 15, 3), (55, .iload 5, 2), (57, .ifCond .eq 10, 3), (60, .iload_n 3, 1), (61, .iconst 1, 1), (62, .iload 4, 2)], [(64, .ishl, 1), (65, .ior, 1), (66, .istore_n 3, 1), (67, .iinc 4 1, 3), (70, .goto (-65), 3), (73, .iload_n 3, 1), (74, .ireturn, 1)]]
def im_33 : List (List (Nat × Instr × Nat)) := [[(0, .iconst 0, 1), (1, .istore_n 2, 1), (2, .iconst 0, 1), (3, .istore_n 3, 1), (4, .iload_n 3, 1), (5, .aload_n 0, 1), (6, .getfield 35, 3), (9, .if_icmp .ge 21, 3), (12, .iload_n 2, 1), (13, .aload_n 0, 1), (14, .aload_n 1, 1), (15, .iload_n 3, 1)], [(16, .invokevirtual 62, 3), (19, .invokestatic 66, 3), (22, .iadd, 1), (23, .istore_n 2, 1), (24, .iinc 3 1, 3), (27, .goto (-23), 3), (30, .iload_n 2, 1), (31, .iconst 2, 1)], [(32, .idiv, 1), (33, .ireturn, 1)]]
def im_34 : List (List (Nat × Instr × Nat)) := [[(0, .iconst 0, 1), (1, .istore_n 2, 1), (2, .iconst 0, 1), (3, .istore_n 3, 1), (4, .iload_n 3, 1), (5, .aload_n 0, 1), (6, .getfield 35, 3), (9, .if_icmp .ge 21, 3), (12, .iload_n 2, 1), (13, .aload_n 0, 1), (14, .aload_n 1, 1), (15, .iload_n 3, 1)], [(16, .invokevirtual 72, 3), (19, .invokestatic 66, 3), (22, .iadd, 1), (23, .istore_n 2, 1), (24, .iinc 3 1, 3), (27, .goto (-23), 3), (30, .iload_n 2, 1), (31, .iconst 2, 1)], [(32, .idiv, 1), (33, .ireturn, 1)]]
def im_35 : List (List (Nat × Instr × Nat)) := [[(0, .iconst 0, 1), (1, .istore_n 1, 1), (2, .iconst 0, 1), (3, .istore_n 2, 1), (4, .iload_n 2, 1), (5, .aload_n 0, 1), (6, .getfield 35, 3), (9, .if_icmp .ge 43, 3), (12, .iload_n 2, 1), (13, .iconst 1, 1), (14, .iadd, 1), (15, .istore_n 3, 1)], [(16, .iload_n 3, 1), (17, .aload_n 0, 1), (18, .getfield 35, 3), (21, .if_icmp .ge 25, 3), (24, .aload_n 0, 1), (25, .getfield 18, 3), (28, .iload_n 2, 1), (29, .iload_n 3, 1), (30, .invokestatic 58, 3)], [(33, .iaload, 1), (34, .ifCond .le 6, 3), (37, .iinc 1 1, 3), (40, .iinc 3 1, 3), (43, .goto (-27), 3), (46, .iinc 2 1, 3)], [(49, .goto (-45), 3), (52, .iload_n 1, 1), (53, .ireturn, 1)]]
def im_36 : List (List (Nat × Instr × Nat)) := [[(0, .iconst 0, 1), (1, .istore_n 2, 1), (2, .iconst 0, 1), (3, .istore_n 3, 1), (4, .iload_n 3, 1), (5, .aload_n 0, 1), (6, .getfield 35, 3), (9, .if_icmp .ge 18, 3), (12, .iload_n 2, 1), (13, .aload_n 1, 1), (14, .getfield 75, 3)], [(17, .iload_n 3, 1), (18, .iaload, 1), (19, .iadd, 1), (20, .istore_n 2, 1), (21, .iinc 3 1, 3), (24, .goto (-20), 3), (27, .iload_n 2, 1), (28, .ireturn, 1)]]
def im_37 : List (List (Nat × Instr × Nat)) := [[(0, .iconst 0, 1), (1, .istore_n 3, 1), (2, .iconst 0, 1), (3, .istore 4, 2), (5, .iload 4, 2), (7, .aload_n 0, 1), (8, .getfield 35, 3), (11, .if_icmp .ge 29, 3), (14, .iload 4, 2)], [(16, .iload_n 2, 1), (17, .if_icmp .eq 17, 3), (20, .iload_n 3, 1), (21, .aload_n 1, 1), (22, .getfield 55, 3), (25, .iload 4, 2), (27, .iload_n 2, 1), (28, .invokestatic 58, 3), (31, .iaload, 1)], [(32, .iadd, 1), (33, .istore_n 3, 1), (34, .iinc 4 1, 3), (37, .goto (-32), 3), (40, .iload_n 3, 1), (41, .ireturn, 1)]]
def im_38 : List (List (Nat × Instr × Nat)) := [[(0, .iconst 0, 1), (1, .istore_n 2, 1), (2, .iconst 0, 1), (3, .istore_n 3, 1), (4, .iload_n 3, 1), (5, .aload_n 0, 1), (6, .getfield 35, 3), (9, .if_icmp .ge 18, 3), (12, .iload_n 2, 1), (13, .aload_n 0, 1), (14, .aload_n 1, 1), (15, .iload_n 3, 1)], [(16, .invokevirtual 78, 3), (19, .iadd, 1), (20, .istore_n 2, 1), (21, .iinc 3 1, 3), (24, .goto (-20), 3), (27, .iload_n 2, 1), (28, .ireturn, 1)]]
def im_39 : List (List (Nat × Instr × Nat)) := [[(0, .aload_n 0, 1), (1, .getfield 32, 3), (4, .iconst 0, 1), (5, .aload_n 0, 1), (6, .getfield 24, 3), (9, .iload_n 3, 1), (10, .iaload, 1), (11, .iastore, 1), (12, .aload_n 0, 1), (13, .getfield 32, 3)], [(16, .iconst 1, 1), (17, .aload_n 0, 1), (18, .iload 4, 2), (20, .aload_n 0, 1), (21, .getfield 21, 3), (24, .iload_n 3, 1), (25, .iaload, 1), (26, .invokevirtual 81, 3), (29, .iastore, 1), (30, .aload_n 0, 1), (31, .getfield 32, 3)], [(34, .iconst 2, 1), (35, .aload_n 0, 1), (36, .getfield 9, 3), (39, .iload 4, 2), (41, .iaload, 1), (42, .iastore, 1), (43, .aload_n 0, 1), (44, .getfield 32, 3), (47, .iconst 3, 1)], [(48, .aload_n 0, 1), (49, .getfield 9, 3), (52, .aload_n 2, 1), (53, .getfield 46, 3), (56, .iload_n 3, 1), (57, .iaload, 1), (58, .iaload, 1), (59, .iastore, 1), (60, .aload_n 0, 1), (61, .getfield 32, 3)], [(64, .iconst 4, 1), (65, .aload_n 2, 1), (66, .getfield 84, 3), (69, .iload_n 3, 1), (70, .iaload, 1), (71, .invokestatic 66, 3), (74, .iastore, 1), (75, .aload_n 0, 1), (76, .getfield 32, 3), (79, .iconst 5, 1)], [(80, .aload_n 0, 1), (81, .getfield 27, 3), (84, .iload_n 3, 1), (85, .iaload, 1), (86, .iastore, 1), (87, .aload_n 0, 1), (88, .getfield 32, 3), (91, .bipush 6, 2), (93, .aload_n 2, 1), (94, .iload_n 3, 1), (95, .invokevirtual 87, 3)], [(98, .ifCond .eq 7, 3), (101, .iconst 1, 1), (102, .goto 4, 3), (105, .iconst 0, 1), (106, .iastore, 1), (107, .aload_n 1, 1), (108, .aload_n 0, 1), (109, .getfield 32, 3)], [(112, .invokevirtual 90, 3), (115, .sipush 999, 3), (118, .invokestatic 94, 3), (121, .ireturn, 1)]]
def im_40 : List (List (Nat × Instr × Nat)) := [[(0, .aload_n 1, 1), (1, .getfield 46, 3), (4, .iload_n 2, 1), (5, .iaload, 1), (6, .istore 5, 2), (8, .iload_n 3, 1), (9, .iload 5, 2), (11, .invokestatic 58, 3), (14, .istore 6, 2)], [(16, .iload 5, 2), (18, .iload_n 3, 1), (19, .invokestatic 58, 3), (22, .istore 7, 2), (24, .aload_n 1, 1), (25, .iload_n 2, 1), (26, .iload_n 3, 1), (27, .aload_n 1, 1), (28, .getfield 97, 3), (31, .iload 7, 2)], [(33, .iaload, 1), (34, .iload 4, 2), (36, .invokevirtual 100, 3), (39, .istore 8, 2), (41, .aload_n 1, 1), (42, .getfield 55, 3), (45, .iload 6, 2), (47, .aload_n 1, 1)], [(48, .getfield 55, 3), (51, .iload 6, 2), (53, .iaload, 1), (54, .iload 8, 2), (56, .iadd, 1), (57, .bipush 20, 2), (59, .invokestatic 94, 3), (62, .iastore, 1), (63, .aload_n 1, 1)], [(64, .iload_n 2, 1), (65, .iload_n 3, 1), (66, .invokevirtual 104, 3), (69, .ifCond .eq 47, 3), (72, .aload_n 1, 1), (73, .getfield 97, 3), (76, .iload 7, 2), (78, .iaload, 1), (79, .ifCond .le 14, 3)], [(82, .aload_n 1, 1), (83, .getfield 97, 3), (86, .iload 7, 2), (88, .iconst 0, 1), (89, .iastore, 1), (90, .goto 26, 3), (93, .aload_n 1, 1), (94, .getfield 97, 3)], [(97, .iload 6, 2), (99, .sipush 9999, 3), (102, .aload_n 1, 1), (103, .getfield 97, 3), (106, .iload 6, 2), (108, .iaload, 1), (109, .iload 4, 2), (111, .iadd, 1)], [(112, .invokestatic 107, 3), (115, .iastore, 1), (116, .aload_n 1, 1), (117, .getfield 46, 3), (120, .iload_n 2, 1), (121, .iload_n 3, 1), (122, .iastore, 1), (123, .aload_n 1, 1), (124, .getfield 84, 3), (127, .iload_n 2, 1)], [(128, .dup2, 1), (129, .iaload, 1), (130, .iconst 1, 1), (131, .iload_n 3, 1), (132, .ishl, 1), (133, .ior, 1), (134, .iastore, 1), (135, .return_, 1)]]
def im_41 : List (List (Nat × Instr × Nat)) := [[(0, .aload_n 0, 1), (1, .getfield 21, 3), (4, .iload_n 2, 1), (5, .iaload, 1), (6, .iconst 1, 1), (7, .if_icmp .eq 13, 3), (10, .aload_n 0, 1), (11, .getfield 21, 3), (14, .iload_n 2, 1), (15, .iaload, 1)], [(16, .iconst 4, 1), (17, .if_icmp .ne 15, 3), (20, .aload_n 1, 1), (21, .iload_n 2, 1), (22, .invokevirtual 87, 3), (25, .ifCond .ne 7, 3), (28, .iconst 1, 1), (29, .goto 4, 3)], [(32, .iconst 0, 1), (33, .ireturn, 1)]]
def im_42 : List (List (Nat × Instr × Nat)) := [[(0, .iconst 0, 1), (1, .istore_n 2, 1), (2, .iload_n 2, 1), (3, .aload_n 0, 1), (4, .getfield 35, 3), (7, .if_icmp .ge 15, 3), (10, .aload_n 0, 1), (11, .aload_n 1, 1), (12, .iload_n 2, 1), (13, .invokevirtual 112, 3)], [(16, .iinc 2 1, 3), (19, .goto (-17), 3), (22, .aload_n 1, 1), (23, .dup, 1), (24, .getfield 116, 3), (27, .iconst 1, 1), (28, .iadd, 1), (29, .putfield 116, 3)], [(32, .return_, 1)]]
def im_43 : List (List (Nat × Instr × Nat)) := [[(0, .sipush 999, 3), (3, .aload_n 1, 1), (4, .getfield 75, 3), (7, .iload_n 2, 1), (8, .iaload, 1), (9, .iconst 2, 1), (10, .aload_n 0, 1), (11, .getfield 9, 3), (14, .iload_n 2, 1), (15, .iaload, 1)], [(16, .imul, 1), (17, .iadd, 1), (18, .invokestatic 107, 3), (21, .istore_n 3, 1), (22, .iconst 0, 1), (23, .istore 4, 2), (25, .iload 4, 2), (27, .aload_n 0, 1), (28, .getfield 43, 3), (31, .if_icmp .ge 69, 3)], [(34, .aload_n 1, 1), (35, .getfield 46, 3), (38, .iload 4, 2), (40, .iaload, 1), (41, .iload_n 2, 1), (42, .if_icmp .ne 52, 3), (45, .aload_n 0, 1), (46, .aload_n 1, 1), (47, .iload 4, 2)], [(49, .invokevirtual 119, 3), (52, .ifCond .eq 42, 3), (55, .iload_n 3, 1), (56, .aload_n 0, 1), (57, .getfield 27, 3), (60, .iload 4, 2), (62, .iaload, 1), (63, .if_icmp .ge 21, 3)], [(66, .iconst 0, 1), (67, .istore_n 3, 1), (68, .aload_n 1, 1), (69, .dup, 1), (70, .getfield 123, 3), (73, .iconst 1, 1), (74, .iload 4, 2), (76, .ishl, 1), (77, .ior, 1), (78, .putfield 123, 3)], [(81, .goto 13, 3), (84, .iload_n 3, 1), (85, .aload_n 0, 1), (86, .getfield 27, 3), (89, .iload 4, 2), (91, .iaload, 1), (92, .isub, 1), (93, .istore_n 3, 1), (94, .iinc 4 1, 3)], [(97, .goto (-72), 3), (100, .aload_n 1, 1), (101, .getfield 75, 3), (104, .iload_n 2, 1), (105, .iload_n 3, 1), (106, .iastore, 1), (107, .return_, 1)]]
def im_44 : List (List (Nat × Instr × Nat)) := [[(0, .aload_n 1, 1), (1, .getfield 123, 3), (4, .istore_n 3, 1), (5, .iconst 1, 1), (6, .istore 4, 2), (8, .iload 4, 2), (10, .bipush 99, 2), (12, .if_icmp .gt 26, 3), (15, .aload_n 0, 1)], [(16, .aload_n 1, 1), (17, .iload_n 2, 1), (18, .invokevirtual 112, 3), (21, .aload_n 1, 1), (22, .getfield 123, 3), (25, .iload_n 3, 1), (26, .if_icmp .eq 6, 3), (29, .iload 4, 2), (31, .ireturn, 1)], [(32, .iinc 4 1, 3), (35, .goto (-27), 3), (38, .bipush 100, 2), (40, .ireturn, 1)]]
def im_45 : List (List (Nat × Instr × Nat)) := [[(0, .aload_n 0, 1), (1, .invokespecial 3, 3), (4, .aload_n 0, 1), (5, .bipush 6, 2), (7, .newarray .int, 2), (9, .putfield 9, 3), (12, .aload_n 0, 1), (13, .sipush 600, 3)], [(16, .newarray .int, 2), (18, .putfield 15, 3), (21, .aload_n 0, 1), (22, .aload_n 1, 1), (23, .putfield 18, 3), (26, .return_, 1)]]
def im_46 : List (List (Nat × Instr × Nat)) := [[(0, .iconst 0, 1), (1, .istore_n 3, 1), (2, .iload_n 3, 1), (3, .aload_n 0, 1), (4, .getfield 18, 3), (7, .getfield 22, 3), (10, .if_icmp .ge 27, 3), (13, .aload_n 0, 1), (14, .getfield 9, 3)], [(17, .iload_n 3, 1), (18, .iload_n 3, 1), (19, .iload_n 2, 1), (20, .if_icmp .ne 7, 3), (23, .iconst 0, 1), (24, .goto 6, 3), (27, .sipush 1000, 3), (30, .iastore, 1), (31, .iinc 3 1, 3)], [(34, .goto (-32), 3), (37, .iconst 1, 1), (38, .istore_n 3, 1), (39, .iload_n 3, 1), (40, .aload_n 0, 1), (41, .getfield 18, 3), (44, .getfield 22, 3), (47, .if_icmp .ge 36, 3)], [(50, .iconst 0, 1), (51, .istore 4, 2), (53, .iload 4, 2), (55, .aload_n 0, 1), (56, .getfield 18, 3), (59, .getfield 22, 3), (62, .if_icmp .ge 15, 3)], [(65, .aload_n 0, 1), (66, .iload 4, 2), (68, .invokevirtual 28, 3), (71, .iinc 4 1, 3), (74, .goto (-21), 3), (77, .iinc 3 1, 3)], [(80, .goto (-41), 3), (83, .aload_n 0, 1), (84, .getfield 9, 3), (87, .iload_n 1, 1), (88, .iaload, 1), (89, .sipush 1000, 3), (92, .if_icmp .ge 12, 3), (95, .aload_n 0, 1)], [(96, .getfield 9, 3), (99, .iload_n 1, 1), (100, .iaload, 1), (101, .goto 4, 3), (104, .iconst (-1), 1), (105, .ireturn, 1)]]
def im_47 : List (List (Nat × Instr × Nat)) := [[(0, .iconst 0, 1), (1, .istore_n 2, 1), (2, .iload_n 2, 1), (3, .aload_n 0, 1), (4, .getfield 18, 3), (7, .getfield 22, 3), (10, .if_icmp .ge 50, 3), (13, .aload_n 0, 1), (14, .getfield 18, 3)], [(17, .getfield 32, 3), (20, .iload_n 1, 1), (21, .iload_n 2, 1), (22, .invokestatic 35, 3), (25, .iaload, 1), (26, .istore_n 3, 1), (27, .iload_n 3, 1), (28, .ifCond .le 26, 3), (31, .aload_n 0, 1)], [(32, .getfield 9, 3), (35, .iload_n 1, 1), (36, .aload_n 0, 1), (37, .getfield 9, 3), (40, .iload_n 1, 1), (41, .iaload, 1), (42, .iload_n 3, 1), (43, .aload_n 0, 1), (44, .getfield 9, 3), (47, .iload_n 2, 1)], [(48, .iaload, 1), (49, .iadd, 1), (50, .invokestatic 39, 3), (53, .iastore, 1), (54, .iinc 2 1, 3), (57, .goto (-55), 3), (60, .return_, 1)]]
def im_48 : List (List (Nat × Instr × Nat)) := [[(0, .aload_n 2, 1), (1, .invokevirtual 44, 3), (4, .aload_n 2, 1), (5, .iload_n 1, 1), (6, .i2l, 1), (7, .invokevirtual 49, 3), (10, .iload_n 1, 1), (11, .istore_n 3, 1), (12, .iconst 0, 1), (13, .istore 4, 2), (15, .iload 4, 2)], [(17, .bipush 6, 2), (19, .if_icmp .ge 30, 3), (22, .aload_n 0, 1), (23, .getfield 9, 3), (26, .iload_n 3, 1), (27, .iaload, 1), (28, .ifCond .le 21, 3), (31, .aload_n 0, 1)], [(32, .iload_n 3, 1), (33, .invokevirtual 53, 3), (36, .istore_n 3, 1), (37, .aload_n 2, 1), (38, .iload_n 3, 1), (39, .i2l, 1), (40, .invokevirtual 49, 3), (43, .iinc 4 1, 3), (46, .goto (-31), 3)], [(49, .return_, 1)]]
def im_49 : List (List (Nat × Instr × Nat)) := [[(0, .iconst 0, 1), (1, .istore_n 2, 1), (2, .iload_n 2, 1), (3, .aload_n 0, 1), (4, .getfield 18, 3), (7, .getfield 22, 3), (10, .if_icmp .ge 46, 3), (13, .aload_n 0, 1), (14, .getfield 18, 3)], [(17, .getfield 32, 3), (20, .iload_n 1, 1), (21, .iload_n 2, 1), (22, .invokestatic 35, 3), (25, .iaload, 1), (26, .istore_n 3, 1), (27, .iload_n 3, 1), (28, .ifCond .le 22, 3), (31, .iload_n 3, 1)], [(32, .aload_n 0, 1), (33, .getfield 9, 3), (36, .iload_n 2, 1), (37, .iaload, 1), (38, .iadd, 1), (39, .aload_n 0, 1), (40, .getfield 9, 3), (43, .iload_n 1, 1), (44, .iaload, 1), (45, .if_icmp .ne 5, 3)], [(48, .iload_n 2, 1), (49, .ireturn, 1), (50, .iinc 2 1, 3), (53, .goto (-51), 3), (56, .iload_n 1, 1), (57, .ireturn, 1)]]
def im_50 : List (List (Nat × Instr × Nat)) := [[(0, .iconst 0, 1), (1, .istore 5, 2), (3, .iload 5, 2), (5, .aload_n 0, 1), (6, .getfield 15, 3), (9, .arraylength, 1), (10, .if_icmp .ge 17, 3), (13, .aload_n 0, 1), (14, .getfield 15, 3)], [(17, .iload 5, 2), (19, .iconst (-1), 1), (20, .iastore, 1), (21, .iinc 5 1, 3), (24, .goto (-21), 3), (27, .aload_n 0, 1), (28, .getfield 15, 3), (31, .iload_n 1, 1)], [(32, .iload 4, 2), (34, .iastore, 1), (35, .iconst 0, 1), (36, .istore 5, 2), (38, .iload 5, 2), (40, .bipush 99, 2), (42, .if_icmp .gt 59, 3), (45, .aload_n 0, 1), (46, .getfield 15, 3)], [(49, .iload 5, 2), (51, .bipush 6, 2), (53, .imul, 1), (54, .iload_n 2, 1), (55, .iadd, 1), (56, .iaload, 1), (57, .ifCond .lt 6, 3), (60, .iload 5, 2), (62, .ireturn, 1), (63, .iconst 0, 1)], [(64, .istore 6, 2), (66, .iload 6, 2), (68, .aload_n 0, 1), (69, .getfield 18, 3), (72, .getfield 22, 3), (75, .if_icmp .ge 20, 3), (78, .aload_n 0, 1), (79, .iload 5, 2)], [(81, .iload 6, 2), (83, .iload_n 3, 1), (84, .iload 4, 2), (86, .invokevirtual 57, 3), (89, .iinc 6 1, 3), (92, .goto (-26), 3), (95, .iinc 5 1, 3)], [(98, .goto (-60), 3), (101, .bipush (-2), 2), (103, .ireturn, 1)]]
def im_51 : List (List (Nat × Instr × Nat)) := [[(0, .aload_n 0, 1), (1, .getfield 15, 3), (4, .iload_n 1, 1), (5, .bipush 6, 2), (7, .imul, 1), (8, .iload_n 2, 1), (9, .iadd, 1), (10, .iaload, 1), (11, .istore 5, 2), (13, .iload 5, 2), (15, .ifCond .ge 4, 3)], [(18, .return_, 1), (19, .iconst 0, 1), (20, .istore 6, 2), (22, .iload 6, 2), (24, .aload_n 0, 1), (25, .getfield 18, 3), (28, .getfield 22, 3), (31, .if_icmp .ge 87, 3)], [(34, .aload_n 0, 1), (35, .getfield 18, 3), (38, .getfield 32, 3), (41, .iload_n 2, 1), (42, .iload 6, 2), (44, .invokestatic 35, 3), (47, .iaload, 1)], [(48, .istore 7, 2), (50, .iload 7, 2), (52, .ifCond .le 60, 3), (55, .iload_n 1, 1), (56, .iload 7, 2), (58, .iadd, 1), (59, .bipush 99, 2), (61, .if_icmp .gt 51, 3)], [(64, .iload 5, 2), (66, .iload_n 3, 1), (67, .iload 7, 2), (69, .imul, 1), (70, .if_icmp .lt 42, 3), (73, .iload_n 1, 1), (74, .iload 7, 2), (76, .iadd, 1), (77, .bipush 6, 2), (79, .imul, 1)], [(80, .iload 6, 2), (82, .iadd, 1), (83, .istore 8, 2), (85, .aload_n 0, 1), (86, .getfield 15, 3), (89, .iload 8, 2), (91, .aload_n 0, 1), (92, .getfield 15, 3), (95, .iload 8, 2)], [(97, .iaload, 1), (98, .iload 5, 2), (100, .iload_n 3, 1), (101, .iload 7, 2), (103, .imul, 1), (104, .isub, 1), (105, .iload 4, 2), (107, .iadd, 1), (108, .invokestatic 61, 3), (111, .iastore, 1)], [(112, .iinc 6 1, 3), (115, .goto (-93), 3), (118, .return_, 1)]]
def im_52 : List (List (Nat × Instr × Nat)) := [[(0, .aload_n 0, 1), (1, .invokespecial 3, 3), (4, .aload_n 0, 1), (5, .bipush 8, 2), (7, .newarray .long, 2), (9, .putfield 9, 3), (12, .return_, 1)]]
def im_53 : List (List (Nat × Instr × Nat)) := [[(0, .aload_n 0, 1), (1, .iconst 0, 1), (2, .putfield 15, 3), (5, .return_, 1)]]
def im_54 : List (List (Nat × Instr × Nat)) := [[(0, .aload_n 0, 1), (1, .getfield 15, 3), (4, .bipush 8, 2), (6, .if_icmp .ge 23, 3), (9, .aload_n 0, 1), (10, .getfield 9, 3), (13, .aload_n 0, 1), (14, .getfield 15, 3)], [(17, .lload_n 1, 1), (18, .lastore, 1), (19, .aload_n 0, 1), (20, .dup, 1), (21, .getfield 15, 3), (24, .iconst 1, 1), (25, .iadd, 1), (26, .putfield 15, 3), (29, .return_, 1)]]
def im_55 : List (List (Nat × Instr × Nat)) := [[(0, .aload_n 0, 1), (1, .invokevirtual 19, 3), (4, .aload_n 0, 1), (5, .lload_n 1, 1), (6, .invokevirtual 22, 3), (9, .return_, 1)]]
def im_56 : List (List (Nat × Instr × Nat)) := [[(0, .aload_n 0, 1), (1, .invokevirtual 19, 3), (4, .aload_n 0, 1), (5, .lload_n 1, 1), (6, .invokevirtual 22, 3), (9, .aload_n 0, 1), (10, .lload_n 3, 1), (11, .invokevirtual 22, 3), (14, .return_, 1)]]
def im_57 : List (List (Nat × Instr × Nat)) := [[(0, .aload_n 0, 1), (1, .invokespecial 3, 3), (4, .aload_n 0, 1), (5, .bipush 40, 2), (7, .newarray .int, 2), (9, .putfield 9, 3), (12, .aload_n 0, 1), (13, .bipush 40, 2), (15, .newarray .int, 2)], [(17, .putfield 15, 3), (20, .aload_n 0, 1), (21, .aload_n 1, 1), (22, .putfield 18, 3), (25, .aload_n 0, 1), (26, .invokevirtual 22, 3), (29, .return_, 1)]]
def im_58 : List (List (Nat × Instr × Nat)) := [[(0, .aload_n 0, 1), (1, .getfield 18, 3), (4, .getfield 25, 3), (7, .ifCond .ne 9, 3), (10, .aload_n 0, 1), (11, .invokevirtual 22, 3), (14, .iconst (-1), 1), (15, .ireturn, 1)], [(16, .aload_n 0, 1), (17, .iconst 0, 1), (18, .putfield 31, 3), (21, .aload_n 0, 1), (22, .iconst 0, 1), (23, .putfield 34, 3), (26, .aload_n 0, 1), (27, .iconst 0, 1), (28, .iconst 0, 1), (29, .invokevirtual 37, 3)], [(32, .ifCond .eq 21, 3), (35, .aload_n 0, 1), (36, .getfield 31, 3), (39, .aload_n 0, 1), (40, .getfield 18, 3), (43, .getfield 25, 3), (46, .if_icmp .ne 7, 3)], [(49, .iconst 1, 1), (50, .goto 4, 3), (53, .iconst 0, 1), (54, .istore_n 1, 1), (55, .iload_n 1, 1), (56, .ifCond .eq 7, 3), (59, .iconst (-1), 1), (60, .goto 7, 3), (63, .aload_n 0, 1)], [(64, .getfield 31, 3), (67, .ireturn, 1)]]
def im_59 : List (List (Nat × Instr × Nat)) := [[(0, .aload_n 0, 1), (1, .iconst 0, 1), (2, .putfield 34, 3), (5, .aload_n 0, 1), (6, .bipush (-119), 2), (8, .invokevirtual 41, 3), (11, .aload_n 0, 1), (12, .bipush (-107), 2), (14, .invokevirtual 41, 3)], [(17, .aload_n 0, 1), (18, .bipush (-42), 2), (20, .invokevirtual 41, 3), (23, .aload_n 0, 1), (24, .iconst 5, 1), (25, .invokevirtual 41, 3), (28, .aload_n 0, 1), (29, .bipush (-47), 2), (31, .invokevirtual 41, 3)], [(34, .return_, 1)]]
def im_60 : List (List (Nat × Instr × Nat)) := [[(0, .aload_n 0, 1), (1, .getfield 34, 3), (4, .bipush 40, 2), (6, .if_icmp .ge 23, 3), (9, .aload_n 0, 1), (10, .getfield 9, 3), (13, .aload_n 0, 1), (14, .getfield 34, 3)], [(17, .iload_n 1, 1), (18, .iastore, 1), (19, .aload_n 0, 1), (20, .dup, 1), (21, .getfield 34, 3), (24, .iconst 1, 1), (25, .iadd, 1), (26, .putfield 34, 3), (29, .return_, 1)]]
def im_61 : List (List (Nat × Instr × Nat)) := [[(0, .aload_n 0, 1), (1, .getfield 18, 3), (4, .aload_n 0, 1), (5, .getfield 31, 3), (8, .bipush 40, 2), (10, .invokevirtual 45, 3), (13, .ireturn, 1)]]
def im_62 : List (List (Nat × Instr × Nat)) := [[(0, .iload_n 1, 1), (1, .iconst 3, 1), (2, .if_icmp .lt 9, 3), (5, .aload_n 0, 1), (6, .iload_n 2, 1), (7, .invokevirtual 49, 3), (10, .ireturn, 1), (11, .aload_n 0, 1), (12, .iload_n 1, 1), (13, .iconst 1, 1), (14, .iadd, 1), (15, .iload_n 2, 1)], [(16, .invokevirtual 37, 3), (19, .ifCond .ne 5, 3), (22, .iconst 0, 1), (23, .ireturn, 1), (24, .iload_n 1, 1), (25, .ifCond .ne 7, 3), (28, .iconst 1, 1), (29, .goto 5, 3)], [(32, .bipush 40, 2), (34, .istore_n 3, 1), (35, .iconst 0, 1), (36, .istore 4, 2), (38, .iload 4, 2), (40, .iload_n 3, 1), (41, .if_icmp .ge 56, 3), (44, .aload_n 0, 1), (45, .invokevirtual 53, 3)], [(48, .invokestatic 57, 3), (51, .iload_n 1, 1), (52, .if_icmp .ne 45, 3), (55, .aload_n 0, 1), (56, .invokevirtual 53, 3), (59, .istore 5, 2), (61, .aload_n 0, 1), (62, .dup, 1), (63, .getfield 31, 3)], [(66, .iconst 1, 1), (67, .iadd, 1), (68, .putfield 31, 3), (71, .aload_n 0, 1), (72, .iload_n 1, 1), (73, .iconst 1, 1), (74, .iadd, 1), (75, .iload_n 2, 1), (76, .invokevirtual 37, 3), (79, .ifCond .ne 5, 3)], [(82, .iconst 0, 1), (83, .ireturn, 1), (84, .aload_n 0, 1), (85, .iload 5, 2), (87, .ineg, 1), (88, .invokevirtual 41, 3), (91, .iinc 4 1, 3), (94, .goto (-56), 3)], [(97, .iconst 1, 1), (98, .ireturn, 1)]]
def im_63 : List (List (Nat × Instr × Nat)) := [[(0, .iload_n 0, 1), (1, .tableswitch 105 42 62 #[103, 101, 105, 101, 105, 103, 105, 105, 105, 105, 105, 105, 105, 105, 105, 105, 105, 105, 99, 99, 99], 99)], [], [], [], [], [], [(100, .iconst 0, 1), (101, .ireturn, 1), (102, .iconst 1, 1), (103, .ireturn, 1), (104, .iconst 2, 1), (105, .ireturn, 1), (106, .iconst (-1), 1), (107, .ireturn, 1)]]
def im_64 : List (List (Nat × Instr × Nat)) := [[(0, .iconst 0, 1), (1, .istore_n 2, 1), (2, .iconst 0, 1), (3, .istore_n 3, 1), (4, .iload_n 3, 1), (5, .bipush 40, 2), (7, .if_icmp .ge 38, 3), (10, .aload_n 0, 1), (11, .invokevirtual 53, 3), (14, .bipush 45, 2)], [(16, .if_icmp .ne 29, 3), (19, .iload_n 2, 1), (20, .ifCond .ne 7, 3), (23, .iconst 1, 1), (24, .goto 4, 3), (27, .iconst 0, 1), (28, .istore_n 2, 1), (29, .aload_n 0, 1), (30, .dup, 1), (31, .getfield 31, 3)], [(34, .iconst 1, 1), (35, .iadd, 1), (36, .putfield 31, 3), (39, .iinc 3 1, 3), (42, .goto (-38), 3), (45, .aload_n 0, 1), (46, .iload_n 1, 1), (47, .invokevirtual 61, 3)], [(50, .ifCond .ne 5, 3), (53, .iconst 0, 1), (54, .ireturn, 1), (55, .iload_n 2, 1), (56, .ifCond .eq 9, 3), (59, .aload_n 0, 1), (60, .bipush (-126), 2), (62, .invokevirtual 41, 3)], [(65, .iconst 1, 1), (66, .ireturn, 1)]]
def im_65 : List (List (Nat × Instr × Nat)) := [[(0, .aload_n 0, 1), (1, .invokevirtual 53, 3), (4, .istore_n 2, 1), (5, .iload_n 2, 1), (6, .bipush 48, 2), (8, .if_icmp .lt 15, 3), (11, .iload_n 2, 1), (12, .bipush 57, 2), (14, .if_icmp .gt 9, 3)], [(17, .aload_n 0, 1), (18, .invokevirtual 64, 3), (21, .iconst 1, 1), (22, .ireturn, 1), (23, .iload_n 2, 1), (24, .invokestatic 67, 3), (27, .ifCond .lt 21, 3), (30, .aload_n 0, 1), (31, .iload_n 2, 1)], [(32, .ineg, 1), (33, .invokevirtual 41, 3), (36, .aload_n 0, 1), (37, .dup, 1), (38, .getfield 31, 3), (41, .iconst 1, 1), (42, .iadd, 1), (43, .putfield 31, 3), (46, .iconst 1, 1), (47, .ireturn, 1)], [(48, .iload_n 2, 1), (49, .bipush 40, 2), (51, .if_icmp .ne 8, 3), (54, .iload_n 1, 1), (55, .iconst 4, 1), (56, .if_icmp .lt 5, 3), (59, .iconst 0, 1), (60, .ireturn, 1), (61, .aload_n 0, 1), (62, .dup, 1), (63, .getfield 31, 3)], [(66, .iconst 1, 1), (67, .iadd, 1), (68, .putfield 31, 3), (71, .aload_n 0, 1), (72, .iconst 0, 1), (73, .iload_n 1, 1), (74, .iconst 1, 1), (75, .iadd, 1), (76, .invokevirtual 37, 3), (79, .ifCond .eq 12, 3)], [(82, .aload_n 0, 1), (83, .invokevirtual 53, 3), (86, .bipush 41, 2), (88, .if_icmp .eq 5, 3), (91, .iconst 0, 1), (92, .ireturn, 1), (93, .aload_n 0, 1), (94, .dup, 1), (95, .getfield 31, 3)], [(98, .iconst 1, 1), (99, .iadd, 1), (100, .putfield 31, 3), (103, .iconst 1, 1), (104, .ireturn, 1)]]
def im_66 : List (List (Nat × Instr × Nat)) := [[(0, .iconst 0, 1), (1, .istore_n 1, 1), (2, .aload_n 0, 1), (3, .getfield 18, 3), (6, .aload_n 0, 1), (7, .getfield 31, 3), (10, .bipush 40, 2), (12, .invokevirtual 70, 3), (15, .istore_n 2, 1)], [(16, .iconst 0, 1), (17, .istore_n 3, 1), (18, .iload_n 3, 1), (19, .iconst 3, 1), (20, .if_icmp .ge 44, 3), (23, .iload_n 2, 1), (24, .ifCond .lt 40, 3), (27, .bipush 10, 2), (29, .iload_n 1, 1), (30, .imul, 1), (31, .iload_n 2, 1)], [(32, .iadd, 1), (33, .istore_n 1, 1), (34, .aload_n 0, 1), (35, .dup, 1), (36, .getfield 31, 3), (39, .iconst 1, 1), (40, .iadd, 1), (41, .putfield 31, 3), (44, .aload_n 0, 1), (45, .getfield 18, 3)], [(48, .aload_n 0, 1), (49, .getfield 31, 3), (52, .bipush 40, 2), (54, .invokevirtual 70, 3), (57, .istore_n 2, 1), (58, .iinc 3 1, 3), (61, .goto (-43), 3)], [(64, .aload_n 0, 1), (65, .iload_n 1, 1), (66, .invokevirtual 41, 3), (69, .return_, 1)]]
def im_67 : List (List (Nat × Instr × Nat)) := [[(0, .iload_n 0, 1), (1, .tableswitch 110 100 119 #[107, 105, 110, 110, 103, 110, 110, 97, 110, 110, 110, 110, 110, 110, 99, 101, 110, 110, 110, 95], 95)], [], [], [], [], [], [(96, .iconst 0, 1), (97, .ireturn, 1), (98, .iconst 1, 1), (99, .ireturn, 1), (100, .iconst 2, 1), (101, .ireturn, 1), (102, .iconst 3, 1), (103, .ireturn, 1), (104, .iconst 4, 1), (105, .ireturn, 1), (106, .iconst 5, 1), (107, .ireturn, 1), (108, .bipush 6, 2), (110, .ireturn, 1), (111, .iconst (-1), 1)], [(112, .ireturn, 1)]]
def im_68 : List (List (Nat × Instr × Nat)) := [[(0, .aload_n 0, 1), (1, .iconst 0, 1), (2, .putfield 73, 3), (5, .iconst 0, 1), (6, .istore_n 2, 1), (7, .iload_n 2, 1), (8, .aload_n 0, 1), (9, .getfield 34, 3), (12, .if_icmp .ge 115, 3), (15, .aload_n 0, 1)], [(16, .getfield 9, 3), (19, .iload_n 2, 1), (20, .iaload, 1), (21, .ineg, 1), (22, .invokestatic 67, 3), (25, .istore_n 3, 1), (26, .aload_n 0, 1), (27, .getfield 9, 3), (30, .iload_n 2, 1), (31, .iaload, 1)], [(32, .ifCond .lt 16, 3), (35, .aload_n 0, 1), (36, .aload_n 0, 1), (37, .getfield 9, 3), (40, .iload_n 2, 1), (41, .iaload, 1), (42, .invokevirtual 76, 3), (45, .goto 76, 3)], [(48, .iload_n 3, 1), (49, .ifCond .lt 19, 3), (52, .iload_n 3, 1), (53, .aload_n 1, 1), (54, .arraylength, 1), (55, .if_icmp .ge 13, 3), (58, .aload_n 0, 1), (59, .aload_n 1, 1), (60, .iload_n 3, 1), (61, .iaload, 1), (62, .invokevirtual 76, 3)], [(65, .goto 56, 3), (68, .aload_n 0, 1), (69, .getfield 9, 3), (72, .iload_n 2, 1), (73, .iaload, 1), (74, .bipush (-126), 2), (76, .if_icmp .ne 15, 3), (79, .aload_n 0, 1)], [(80, .aload_n 0, 1), (81, .invokevirtual 79, 3), (84, .ineg, 1), (85, .invokevirtual 76, 3), (88, .goto 33, 3), (91, .aload_n 0, 1), (92, .invokevirtual 79, 3), (95, .istore 4, 2)], [(97, .aload_n 0, 1), (98, .invokevirtual 79, 3), (101, .istore 5, 2), (103, .aload_n 0, 1), (104, .aload_n 0, 1), (105, .getfield 9, 3), (108, .iload_n 2, 1), (109, .iaload, 1), (110, .ineg, 1), (111, .iload 5, 2)], [(113, .iload 4, 2), (115, .invokestatic 82, 3), (118, .invokevirtual 76, 3), (121, .iinc 2 1, 3), (124, .goto (-117), 3), (127, .aload_n 0, 1)], [(128, .invokevirtual 79, 3), (131, .ireturn, 1)]]
def im_69 : List (List (Nat × Instr × Nat)) := [[(0, .aload_n 0, 1), (1, .getfield 73, 3), (4, .bipush 40, 2), (6, .if_icmp .ge 23, 3), (9, .aload_n 0, 1), (10, .getfield 15, 3), (13, .aload_n 0, 1), (14, .getfield 73, 3)], [(17, .iload_n 1, 1), (18, .iastore, 1), (19, .aload_n 0, 1), (20, .dup, 1), (21, .getfield 73, 3), (24, .iconst 1, 1), (25, .iadd, 1), (26, .putfield 73, 3), (29, .return_, 1)]]
def im_70 : List (List (Nat × Instr × Nat)) := [[(0, .aload_n 0, 1), (1, .getfield 73, 3), (4, .ifCond .gt 5, 3), (7, .iconst 0, 1), (8, .ireturn, 1), (9, .aload_n 0, 1), (10, .dup, 1), (11, .getfield 73, 3), (14, .iconst 1, 1), (15, .isub, 1)], [(16, .putfield 73, 3), (19, .aload_n 0, 1), (20, .getfield 15, 3), (23, .aload_n 0, 1), (24, .getfield 73, 3), (27, .iaload, 1), (28, .ireturn, 1)]]
def im_71 : List (List (Nat × Instr × Nat)) := [[(0, .iload_n 0, 1), (1, .lookupswitch 104 #[(42, 100), (43, 92), (45, 96), (60, 59), (61, 81), (62, 70)], 59)], [], [], [(60, .iload_n 1, 1), (61, .iload_n 2, 1), (62, .if_icmp .ge 7, 3)], [(65, .iconst 1, 1), (66, .goto 4, 3), (69, .iconst 0, 1), (70, .ireturn, 1), (71, .iload_n 1, 1), (72, .iload_n 2, 1), (73, .if_icmp .le 7, 3), (76, .iconst 1, 1), (77, .goto 4, 3)], [(80, .iconst 0, 1), (81, .ireturn, 1), (82, .iload_n 1, 1), (83, .iload_n 2, 1), (84, .if_icmp .ne 7, 3), (87, .iconst 1, 1), (88, .goto 4, 3), (91, .iconst 0, 1), (92, .ireturn, 1), (93, .iload_n 1, 1), (94, .iload_n 2, 1), (95, .iadd, 1)], [(96, .ireturn, 1), (97, .iload_n 1, 1), (98, .iload_n 2, 1), (99, .isub, 1), (100, .ireturn, 1), (101, .iload_n 1, 1), (102, .iload_n 2, 1), (103, .imul, 1), (104, .ireturn, 1), (105, .iload_n 2, 1), (106, .ifCond .ne 7, 3), (109, .iconst 0, 1), (110, .goto 6, 3)], [(113, .iload_n 1, 1), (114, .iload_n 2, 1), (115, .idiv, 1), (116, .ireturn, 1)]]
def im_72 : List (List (Nat × Instr × Nat)) := [[(0, .aload_n 0, 1), (1, .invokespecial 3, 3), (4, .aload_n 0, 1), (5, .bipush 6, 2), (7, .newarray .int, 2), (9, .putfield 9, 3), (12, .aload_n 0, 1), (13, .bipush 36, 2), (15, .newarray .int, 2)], [(17, .putfield 15, 3), (20, .aload_n 0, 1), (21, .bipush 36, 2), (23, .newarray .int, 2), (25, .putfield 18, 3), (28, .aload_n 0, 1), (29, .bipush 8, 2), (31, .newarray .int, 2)], [(33, .putfield 21, 3), (36, .aload_n 0, 1), (37, .bipush 8, 2), (39, .newarray .int, 2), (41, .putfield 24, 3), (44, .return_, 1)]]
def im_73 : List (List (Nat × Instr × Nat)) := [[(0, .aload_n 1, 1), (1, .getfield 9, 3), (4, .iconst 0, 1), (5, .aload_n 0, 1), (6, .getfield 9, 3), (9, .iconst 0, 1), (10, .bipush 6, 2), (12, .invokestatic 27, 3), (15, .aload_n 1, 1)], [(16, .getfield 15, 3), (19, .iconst 0, 1), (20, .aload_n 0, 1), (21, .getfield 15, 3), (24, .iconst 0, 1), (25, .bipush 36, 2), (27, .invokestatic 27, 3), (30, .aload_n 1, 1), (31, .getfield 18, 3)], [(34, .iconst 0, 1), (35, .aload_n 0, 1), (36, .getfield 18, 3), (39, .iconst 0, 1), (40, .bipush 36, 2), (42, .invokestatic 27, 3), (45, .aload_n 1, 1), (46, .getfield 21, 3)], [(49, .iconst 0, 1), (50, .aload_n 0, 1), (51, .getfield 21, 3), (54, .iconst 0, 1), (55, .bipush 8, 2), (57, .invokestatic 27, 3), (60, .aload_n 1, 1), (61, .getfield 24, 3)], [(64, .iconst 0, 1), (65, .aload_n 0, 1), (66, .getfield 24, 3), (69, .iconst 0, 1), (70, .bipush 8, 2), (72, .invokestatic 27, 3), (75, .aload_n 0, 1), (76, .aload_n 1, 1), (77, .getfield 33, 3)], [(80, .putfield 33, 3), (83, .aload_n 0, 1), (84, .aload_n 1, 1), (85, .getfield 37, 3), (88, .putfield 37, 3), (91, .return_, 1)]]
def im_74 : List (List (Nat × Instr × Nat)) := [[(0, .aload_n 0, 1), (1, .getfield 33, 3), (4, .iload_n 1, 1), (5, .ishr, 1), (6, .iconst 1, 1), (7, .iand, 1), (8, .ifCond .eq 7, 3), (11, .iconst 1, 1), (12, .goto 4, 3), (15, .iconst 0, 1)], [(16, .ireturn, 1)]]
def im_75 : List (List (Nat × Instr × Nat)) := [[(0, .aload_n 0, 1), (1, .getfield 24, 3), (4, .iload_n 1, 1), (5, .iaload, 1), (6, .iload_n 2, 1), (7, .ishr, 1), (8, .iconst 1, 1), (9, .iand, 1), (10, .ifCond .eq 7, 3), (13, .iconst 1, 1), (14, .goto 4, 3)], [(17, .iconst 0, 1), (18, .ireturn, 1)]]
def im_76 : List (List (Nat × Instr × Nat)) := [[(0, .aload_n 0, 1), (1, .iload_n 1, 1), (2, .iload_n 2, 1), (3, .invokevirtual 40, 3), (6, .ifCond .ne 15, 3), (9, .aload_n 0, 1), (10, .iload_n 1, 1), (11, .invokevirtual 44, 3), (14, .ifCond .ne 7, 3)], [(17, .iconst 1, 1), (18, .goto 4, 3), (21, .iconst 0, 1), (22, .ireturn, 1)]]
def im_77 : List (List (Nat × Instr × Nat)) := [[(0, .aload_n 0, 1), (1, .iload_n 1, 1), (2, .iload_n 2, 1), (3, .invokevirtual 40, 3), (6, .ifCond .eq 6, 3), (9, .bipush (-6), 2), (11, .ireturn, 1), (12, .aload_n 0, 1), (13, .iload_n 1, 1), (14, .invokevirtual 44, 3)], [(17, .ifCond .eq 6, 3), (20, .bipush (-4), 2), (22, .ireturn, 1), (23, .iload_n 3, 1), (24, .ifCond .gt 5, 3), (27, .iconst 2, 1), (28, .ireturn, 1), (29, .iconst 2, 1), (30, .iload 4, 2)], [(32, .imul, 1), (33, .iload_n 3, 1), (34, .if_icmp .ge 6, 3), (37, .bipush (-5), 2), (39, .ireturn, 1), (40, .iload 4, 2), (42, .iconst 2, 1), (43, .iload_n 3, 1), (44, .imul, 1), (45, .if_icmp .le 8, 3)], [(48, .bipush (-2), 2), (50, .goto 4, 3), (53, .iconst 4, 1), (54, .ireturn, 1)]]
def im_78 : List (List (Nat × Instr × Nat)) := [[(0, .aload_n 0, 1), (1, .invokespecial 3, 3), (4, .aload_n 0, 1), (5, .bipush 80, 2), (7, .newarray .char, 2), (9, .putfield 9, 3), (12, .return_, 1)]]
def im_79 : List (List (Nat × Instr × Nat)) := [[(0, .aload_n 0, 1), (1, .getfield 15, 3), (4, .iconst 4, 1), (5, .iadd, 1), (6, .bipush 80, 2), (8, .if_icmp .le 5, 3), (11, .iconst 0, 1), (12, .ireturn, 1), (13, .bipush 24, 2), (15, .istore_n 2, 1)], [(16, .iload_n 2, 1), (17, .ifCond .lt 36, 3), (20, .aload_n 0, 1), (21, .getfield 9, 3), (24, .aload_n 0, 1), (25, .getfield 15, 3), (28, .iload_n 1, 1), (29, .iload_n 2, 1), (30, .iushr, 1), (31, .sipush 255, 3)], [(34, .iand, 1), (35, .i2c, 1), (36, .castore, 1), (37, .aload_n 0, 1), (38, .dup, 1), (39, .getfield 15, 3), (42, .iconst 1, 1), (43, .iadd, 1), (44, .putfield 15, 3), (47, .iinc 2 (-8), 3)], [(50, .goto (-34), 3), (53, .iconst 1, 1), (54, .ireturn, 1)]]
def im_80 : List (List (Nat × Instr × Nat)) := [[(0, .iload_n 1, 1), (1, .ifCond .lt 25, 3), (4, .iload_n 1, 1), (5, .aload_n 0, 1), (6, .getfield 15, 3), (9, .if_icmp .ge 17, 3), (12, .iload_n 1, 1), (13, .iload_n 2, 1), (14, .if_icmp .ge 12, 3)], [(17, .aload_n 0, 1), (18, .getfield 9, 3), (21, .iload_n 1, 1), (22, .caload, 1), (23, .goto 4, 3), (26, .iconst (-1), 1), (27, .ireturn, 1)]]
def im_81 : List (List (Nat × Instr × Nat)) := [[(0, .aload_n 0, 1), (1, .iload_n 1, 1), (2, .iload_n 2, 1), (3, .invokevirtual 19, 3), (6, .istore_n 3, 1), (7, .iload_n 3, 1), (8, .bipush 48, 2), (10, .if_icmp .lt 16, 3), (13, .iload_n 3, 1), (14, .bipush 57, 2)], [(16, .if_icmp .gt 10, 3), (19, .iload_n 3, 1), (20, .bipush 48, 2), (22, .isub, 1), (23, .goto 4, 3), (26, .iconst (-1), 1), (27, .ireturn, 1)]]
def im_82 : List (List (Nat × Instr × Nat)) := [[(0, .aload_n 0, 1), (1, .invokespecial 3, 3), (4, .aload_n 0, 1), (5, .iconst 4, 1), (6, .newarray .int, 2), (8, .putfield 9, 3), (11, .aload_n 0, 1), (12, .bipush 8, 2), (14, .newarray .int, 2)], [(16, .putfield 15, 3), (19, .aload_n 0, 1), (20, .iconst 4, 1), (21, .newarray .int, 2), (23, .putfield 18, 3), (26, .aload_n 0, 1), (27, .aload_n 1, 1), (28, .putfield 21, 3), (31, .aload_n 0, 1)], [(32, .aload_n 2, 1), (33, .putfield 25, 3), (36, .return_, 1)]]
def im_83 : List (List (Nat × Instr × Nat)) := [[(0, .aload_n 0, 1), (1, .iload_n 3, 1), (2, .putfield 29, 3), (5, .aload_n 0, 1), (6, .getfield 21, 3), (9, .aload_n 0, 1), (10, .getfield 25, 3), (13, .iload_n 2, 1), (14, .invokevirtual 33, 3)], [(17, .istore 4, 2), (19, .iconst 0, 1), (20, .istore 5, 2), (22, .iload 5, 2), (24, .aload_n 0, 1), (25, .getfield 21, 3), (28, .getfield 39, 3), (31, .if_icmp .ge 31, 3)], [(34, .aload_n 0, 1), (35, .getfield 15, 3), (38, .iload 5, 2), (40, .aload_n 0, 1), (41, .getfield 21, 3), (44, .aload_n 1, 1), (45, .aload_n 0, 1), (46, .getfield 25, 3)], [(49, .iload 5, 2), (51, .iload_n 3, 1), (52, .invokevirtual 42, 3), (55, .iastore, 1), (56, .iinc 5 1, 3), (59, .goto (-37), 3), (62, .iconst 0, 1), (63, .istore 5, 2)], [(65, .iload 5, 2), (67, .iconst 4, 1), (68, .if_icmp .gt 64, 3), (71, .aload_n 0, 1), (72, .iload 5, 2), (74, .putfield 46, 3), (77, .aload_n 0, 1), (78, .iconst (-1), 1), (79, .putfield 49, 3)], [(82, .aload_n 0, 1), (83, .iconst 0, 1), (84, .iload 4, 2), (86, .aload_n 0, 1), (87, .getfield 25, 3), (90, .getfield 52, 3), (93, .iload_n 3, 1), (94, .iload_n 2, 1), (95, .invokestatic 57, 3)], [(98, .iaload, 1), (99, .aload_n 0, 1), (100, .getfield 25, 3), (103, .getfield 61, 3), (106, .iload_n 2, 1), (107, .iload_n 3, 1), (108, .invokestatic 57, 3), (111, .iaload, 1)], [(112, .iconst 0, 1), (113, .invokevirtual 64, 3), (116, .aload_n 0, 1), (117, .getfield 49, 3), (120, .ifCond .lt 6, 3), (123, .iload 5, 2), (125, .ireturn, 1), (126, .iinc 5 1, 3)], [(129, .goto (-64), 3), (132, .bipush (-2), 2), (134, .ireturn, 1)]]
def im_84 : List (List (Nat × Instr × Nat)) := [[(0, .iload_n 1, 1), (1, .aload_n 0, 1), (2, .getfield 46, 3), (5, .if_icmp .ge 8, 3), (8, .iload_n 1, 1), (9, .iconst 4, 1), (10, .if_icmp .lt 58, 3), (13, .aload_n 0, 1), (14, .getfield 49, 3)], [(17, .ifCond .lt 12, 3), (20, .iload 5, 2), (22, .aload_n 0, 1), (23, .getfield 49, 3), (26, .if_icmp .ge 7, 3), (29, .iconst 1, 1), (30, .goto 4, 3)], [(33, .iconst 0, 1), (34, .istore 6, 2), (36, .iload_n 3, 1), (37, .bipush 15, 2), (39, .if_icmp .lt 28, 3), (42, .iload 6, 2), (44, .ifCond .eq 23, 3), (47, .aload_n 0, 1)], [(48, .iload 5, 2), (50, .putfield 49, 3), (53, .aload_n 0, 1), (54, .getfield 18, 3), (57, .iconst 0, 1), (58, .aload_n 0, 1), (59, .getfield 9, 3), (62, .iconst 0, 1), (63, .iconst 4, 1)], [(64, .invokestatic 68, 3), (67, .return_, 1), (68, .iconst 0, 1), (69, .istore 6, 2), (71, .iload 6, 2), (73, .aload_n 0, 1), (74, .getfield 21, 3), (77, .getfield 39, 3)], [(80, .if_icmp .ge 113, 3), (83, .iload_n 2, 1), (84, .iload 6, 2), (86, .ishr, 1), (87, .iconst 1, 1), (88, .iand, 1), (89, .ifCond .eq 98, 3), (92, .aload_n 0, 1), (93, .getfield 18, 3)], [(96, .iload_n 1, 1), (97, .iload 6, 2), (99, .iastore, 1), (100, .iload_n 3, 1), (101, .aload_n 0, 1), (102, .getfield 25, 3), (105, .iload 6, 2), (107, .aload_n 0, 1), (108, .getfield 29, 3), (111, .iload 4, 2)], [(113, .aload_n 0, 1), (114, .getfield 15, 3), (117, .iload 6, 2), (119, .iaload, 1), (120, .invokevirtual 74, 3), (123, .iadd, 1), (124, .bipush 20, 2), (126, .invokestatic 78, 3)], [(129, .istore 7, 2), (131, .aload_n 0, 1), (132, .getfield 25, 3), (135, .iload 6, 2), (137, .aload_n 0, 1), (138, .getfield 29, 3), (141, .invokevirtual 81, 3)], [(144, .ifCond .eq 7, 3), (147, .iconst 0, 1), (148, .goto 5, 3), (151, .iload 4, 2), (153, .istore 8, 2), (155, .aload_n 0, 1), (156, .iload_n 1, 1), (157, .iconst 1, 1), (158, .iadd, 1), (159, .iload_n 2, 1)], [(160, .iconst 1, 1), (161, .iload 6, 2), (163, .ishl, 1), (164, .iconst (-1), 1), (165, .ixor, 1), (166, .iand, 1), (167, .iload 7, 2), (169, .iload 8, 2), (171, .iload 5, 2), (173, .aload_n 0, 1), (174, .getfield 21, 3)], [(177, .getfield 85, 3), (180, .iload 6, 2), (182, .iaload, 1), (183, .iadd, 1), (184, .invokevirtual 64, 3), (187, .iinc 6 1, 3), (190, .goto (-119), 3)], [(193, .return_, 1)]]
def im_85 : List (List (Nat × Instr × Nat)) := [[(0, .aload_n 0, 1), (1, .invokespecial 3, 3), (4, .aload_n 0, 1), (5, .new 9, 3), (8, .dup, 1), (9, .invokespecial 11, 3), (12, .putfield 12, 3), (15, .aload_n 0, 1)], [(16, .new 16, 3), (19, .dup, 1), (20, .invokespecial 18, 3), (23, .putfield 19, 3), (26, .aload_n 0, 1), (27, .new 23, 3), (30, .dup, 1), (31, .invokespecial 25, 3)], [(34, .putfield 26, 3), (37, .aload_n 0, 1), (38, .new 30, 3), (41, .dup, 1), (42, .invokespecial 32, 3), (45, .putfield 33, 3)], [(48, .aload_n 0, 1), (49, .new 30, 3), (52, .dup, 1), (53, .invokespecial 32, 3), (56, .putfield 37, 3), (59, .aload_n 0, 1), (60, .new 40, 3), (63, .dup, 1)], [(64, .invokespecial 42, 3), (67, .putfield 43, 3), (70, .aload_n 0, 1), (71, .iconst 3, 1), (72, .anewarray 30, 3), (75, .putfield 47, 3), (78, .iconst 0, 1), (79, .istore_n 1, 1)], [(80, .iload_n 1, 1), (81, .iconst 3, 1), (82, .if_icmp .ge 22, 3), (85, .aload_n 0, 1), (86, .getfield 47, 3), (89, .iload_n 1, 1), (90, .new 30, 3), (93, .dup, 1), (94, .invokespecial 32, 3)], [(97, .aastore, 1), (98, .iinc 1 1, 3), (101, .goto (-21), 3), (104, .aload_n 0, 1), (105, .new 51, 3), (108, .dup, 1), (109, .aload_n 0, 1), (110, .getfield 12, 3)], [(113, .invokespecial 53, 3), (116, .putfield 56, 3), (119, .aload_n 0, 1), (120, .new 51, 3), (123, .dup, 1), (124, .aload_n 0, 1), (125, .getfield 12, 3)], [(128, .invokespecial 53, 3), (131, .putfield 60, 3), (134, .aload_n 0, 1), (135, .new 63, 3), (138, .dup, 1), (139, .aload_n 0, 1), (140, .getfield 26, 3), (143, .invokespecial 65, 3)], [(146, .putfield 68, 3), (149, .aload_n 0, 1), (150, .new 72, 3), (153, .dup, 1), (154, .aload_n 0, 1), (155, .getfield 26, 3), (158, .invokespecial 74, 3)], [(161, .putfield 75, 3), (164, .aload_n 0, 1), (165, .new 79, 3), (168, .dup, 1), (169, .aload_n 0, 1), (170, .getfield 26, 3), (173, .aload_n 0, 1), (174, .getfield 33, 3)], [(177, .invokespecial 81, 3), (180, .putfield 84, 3), (183, .aload_n 0, 1), (184, .new 88, 3), (187, .dup, 1), (188, .aload_n 0, 1), (189, .getfield 26, 3)], [(192, .invokespecial 90, 3), (195, .putfield 91, 3), (198, .return_, 1)]]
def im_86 : List (List (Nat × Instr × Nat)) := [[(0, .aload_n 0, 1), (1, .getfield 12, 3), (4, .iload_n 1, 1), (5, .invokevirtual 95, 3), (8, .ifCond .eq 13, 3), (11, .aload_n 0, 1), (12, .getfield 12, 3), (15, .getfield 99, 3)], [(18, .goto 4, 3), (21, .iconst (-1), 1), (22, .ireturn, 1)]]
def im_87 : List (List (Nat × Instr × Nat)) := [[(0, .iload_n 1, 1), (1, .ifCond .lt 14, 3), (4, .iload_n 1, 1), (5, .aload_n 0, 1), (6, .getfield 12, 3), (9, .getfield 99, 3), (12, .if_icmp .le 5, 3), (15, .iconst 0, 1)], [(16, .ireturn, 1), (17, .aload_n 0, 1), (18, .getfield 12, 3), (21, .iload_n 1, 1), (22, .putfield 99, 3), (25, .iconst 1, 1), (26, .ireturn, 1)]]
def im_88 : List (List (Nat × Instr × Nat)) := [[(0, .aload_n 0, 1), (1, .invokevirtual 103, 3), (4, .istore_n 1, 1), (5, .aload_n 0, 1), (6, .getfield 12, 3), (9, .iconst 0, 1), (10, .putfield 99, 3), (13, .iload_n 1, 1), (14, .ifCond .le 44, 3)], [(17, .iconst 0, 1), (18, .istore_n 2, 1), (19, .iload_n 2, 1), (20, .iload_n 1, 1), (21, .if_icmp .ge 33, 3), (24, .aload_n 0, 1), (25, .aload_n 0, 1), (26, .getfield 26, 3), (29, .getfield 107, 3)], [(32, .invokevirtual 110, 3), (35, .aload_n 0, 1), (36, .getfield 26, 3), (39, .dup, 1), (40, .getfield 107, 3), (43, .iconst 1, 1), (44, .iadd, 1), (45, .putfield 107, 3)], [(48, .iinc 2 1, 3), (51, .goto (-32), 3), (54, .aload_n 0, 1), (55, .invokevirtual 114, 3), (58, .iload_n 1, 1), (59, .ireturn, 1)]]
def im_89 : List (List (Nat × Instr × Nat)) := [[(0, .aload_n 0, 1), (1, .invokevirtual 117, 3), (4, .istore_n 1, 1), (5, .aload_n 0, 1), (6, .getfield 12, 3), (9, .iconst 0, 1), (10, .putfield 99, 3), (13, .iload_n 1, 1), (14, .ifCond .le 20, 3)], [(17, .aload_n 0, 1), (18, .getfield 26, 3), (21, .dup, 1), (22, .getfield 120, 3), (25, .iload_n 1, 1), (26, .iadd, 1), (27, .putfield 120, 3), (30, .aload_n 0, 1), (31, .invokevirtual 114, 3)], [(34, .iload_n 1, 1), (35, .ireturn, 1)]]
def im_90 : List (List (Nat × Instr × Nat)) := [[(0, .aload_n 0, 1), (1, .getfield 60, 3), (4, .invokevirtual 123, 3), (7, .istore_n 1, 1), (8, .aload_n 0, 1), (9, .getfield 12, 3), (12, .iconst 0, 1), (13, .putfield 99, 3)], [(16, .iload_n 1, 1), (17, .ifCond .lt 7, 3), (20, .iconst (-1), 1), (21, .iload_n 1, 1), (22, .isub, 1), (23, .ireturn, 1), (24, .aload_n 0, 1), (25, .getfield 56, 3), (28, .astore_n 2, 1), (29, .aload_n 0, 1), (30, .aload_n 0, 1), (31, .getfield 60, 3)], [(34, .putfield 56, 3), (37, .aload_n 0, 1), (38, .aload_n 2, 1), (39, .putfield 60, 3), (42, .iconst 0, 1), (43, .ireturn, 1)]]
def im_91 : List (List (Nat × Instr × Nat)) := [[(0, .aload_n 0, 1), (1, .getfield 26, 3), (4, .iload_n 1, 1), (5, .invokevirtual 126, 3), (8, .ifCond .ne 11, 3), (11, .new 129, 3), (14, .dup, 1), (15, .invokespecial 131, 3)], [(18, .athrow, 1), (19, .iload_n 2, 1), (20, .bipush 10, 2), (22, .if_icmp .lt 22, 3), (25, .iload_n 2, 1), (26, .bipush 15, 2), (28, .if_icmp .ge 16, 3), (31, .aload_n 0, 1)], [(32, .getfield 26, 3), (35, .iload_n 1, 1), (36, .iload_n 2, 1), (37, .bipush 10, 2), (39, .isub, 1), (40, .invokevirtual 132, 3), (43, .ireturn, 1), (44, .iload_n 2, 1), (45, .tableswitch 111 0 5 #[39, 49, 59, 72, 85, 98], 39)], [], [], [(84, .aload_n 0, 1), (85, .getfield 26, 3), (88, .getfield 136, 3), (91, .iload_n 1, 1), (92, .iaload, 1), (93, .ireturn, 1), (94, .aload_n 0, 1), (95, .getfield 33, 3)], [(98, .getfield 140, 3), (101, .iload_n 1, 1), (102, .iaload, 1), (103, .ireturn, 1), (104, .aload_n 0, 1), (105, .getfield 26, 3), (108, .aload_n 0, 1), (109, .getfield 33, 3)], [(112, .iload_n 1, 1), (113, .invokevirtual 143, 3), (116, .ireturn, 1), (117, .aload_n 0, 1), (118, .getfield 26, 3), (121, .aload_n 0, 1), (122, .getfield 33, 3), (125, .iload_n 1, 1), (126, .invokevirtual 147, 3)], [(129, .ireturn, 1), (130, .aload_n 0, 1), (131, .getfield 26, 3), (134, .aload_n 0, 1), (135, .getfield 33, 3), (138, .iload_n 1, 1), (139, .invokevirtual 150, 3), (142, .ireturn, 1), (143, .aload_n 0, 1)], [(144, .getfield 75, 3), (147, .aload_n 0, 1), (148, .getfield 33, 3), (151, .iload_n 1, 1), (152, .invokevirtual 153, 3), (155, .ireturn, 1), (156, .new 129, 3), (159, .dup, 1)], [(160, .invokespecial 131, 3), (163, .athrow, 1)]]
def im_92 : List (List (Nat × Instr × Nat)) := [[(0, .aload_n 0, 1), (1, .getfield 26, 3), (4, .iload_n 1, 1), (5, .iload_n 2, 1), (6, .invokevirtual 156, 3), (9, .ifCond .ne 11, 3), (12, .new 129, 3), (15, .dup, 1)], [(16, .invokespecial 131, 3), (19, .athrow, 1), (20, .iload_n 1, 1), (21, .iload_n 2, 1), (22, .invokestatic 160, 3), (25, .istore 4, 2), (27, .iload_n 3, 1), (28, .tableswitch 78 0 2 #[28, 39, 50], 28)], [], [(56, .aload_n 0, 1), (57, .getfield 33, 3), (60, .getfield 163, 3), (63, .iload 4, 2)], [(65, .iaload, 1), (66, .ireturn, 1), (67, .aload_n 0, 1), (68, .getfield 33, 3), (71, .getfield 166, 3), (74, .iload 4, 2), (76, .iaload, 1), (77, .ireturn, 1), (78, .aload_n 0, 1), (79, .getfield 26, 3)], [(82, .getfield 169, 3), (85, .iload 4, 2), (87, .iaload, 1), (88, .ifCond .le 16, 3), (91, .aload_n 0, 1), (92, .getfield 26, 3), (95, .getfield 169, 3)], [(98, .iload 4, 2), (100, .iaload, 1), (101, .goto 4, 3), (104, .iconst (-1), 1), (105, .ireturn, 1), (106, .new 129, 3), (109, .dup, 1), (110, .invokespecial 131, 3)], [(113, .athrow, 1)]]
def im_93 : List (List (Nat × Instr × Nat)) := [[(0, .aload_n 0, 1), (1, .getfield 26, 3), (4, .iload_n 1, 1), (5, .invokevirtual 172, 3), (8, .ifCond .ne 11, 3), (11, .new 129, 3), (14, .dup, 1), (15, .invokespecial 131, 3)], [(18, .athrow, 1), (19, .iload_n 2, 1), (20, .tableswitch 107 0 5 #[40, 50, 60, 70, 80, 90], 40)], [], [(60, .aload_n 0, 1), (61, .getfield 26, 3)], [(64, .getfield 175, 3), (67, .iload_n 1, 1), (68, .iaload, 1), (69, .ireturn, 1), (70, .aload_n 0, 1), (71, .getfield 26, 3), (74, .getfield 178, 3), (77, .iload_n 1, 1), (78, .iaload, 1), (79, .ireturn, 1)], [(80, .aload_n 0, 1), (81, .getfield 26, 3), (84, .getfield 181, 3), (87, .iload_n 1, 1), (88, .iaload, 1), (89, .ireturn, 1), (90, .aload_n 0, 1), (91, .getfield 33, 3), (94, .getfield 184, 3)], [(97, .iload_n 1, 1), (98, .iaload, 1), (99, .ireturn, 1), (100, .aload_n 0, 1), (101, .getfield 33, 3), (104, .getfield 187, 3), (107, .iload_n 1, 1), (108, .iaload, 1), (109, .ireturn, 1), (110, .aload_n 0, 1), (111, .getfield 33, 3)], [(114, .iload_n 1, 1), (115, .invokevirtual 190, 3), (118, .ifCond .eq 7, 3), (121, .iconst 1, 1), (122, .goto 4, 3), (125, .iconst 0, 1), (126, .ireturn, 1), (127, .new 129, 3)], [(130, .dup, 1), (131, .invokespecial 131, 3), (134, .athrow, 1)]]
def im_94 : List (List (Nat × Instr × Nat)) := [[(0, .aload_n 0, 1), (1, .getfield 26, 3), (4, .iload_n 1, 1), (5, .iload_n 2, 1), (6, .invokevirtual 156, 3), (9, .ifCond .eq 13, 3), (12, .iload_n 3, 1), (13, .ifCond .lt 9, 3)], [(16, .iload_n 3, 1), (17, .bipush 9, 2), (19, .if_icmp .le 5, 3), (22, .iconst (-1), 1), (23, .ireturn, 1), (24, .aload_n 0, 1), (25, .getfield 26, 3), (28, .getfield 169, 3), (31, .iload_n 1, 1)], [(32, .iload_n 2, 1), (33, .invokestatic 160, 3), (36, .iaload, 1), (37, .istore 4, 2), (39, .aload_n 0, 1), (40, .getfield 26, 3), (43, .getfield 169, 3), (46, .iload_n 1, 1), (47, .iload_n 2, 1)], [(48, .invokestatic 160, 3), (51, .iload_n 3, 1), (52, .iastore, 1), (53, .aload_n 0, 1), (54, .getfield 26, 3), (57, .getfield 169, 3), (60, .iload_n 2, 1), (61, .iload_n 1, 1), (62, .invokestatic 160, 3)], [(65, .iload_n 3, 1), (66, .iastore, 1), (67, .iload 4, 2), (69, .ireturn, 1)]]
def im_95 : List (List (Nat × Instr × Nat)) := [[(0, .iload_n 1, 1), (1, .ifCond .lt 14, 3), (4, .iload_n 1, 1), (5, .iconst 3, 1), (6, .if_icmp .gt 9, 3), (9, .iload_n 2, 1), (10, .bipush 6, 2), (12, .if_icmp .le 5, 3), (15, .iconst (-1), 1)], [(16, .ireturn, 1), (17, .iload_n 1, 1), (18, .iconst 3, 1), (19, .if_icmp .ne 7, 3), (22, .iconst 1, 1), (23, .goto 4, 3), (26, .iconst 0, 1), (27, .istore 5, 2), (29, .iload 5, 2), (31, .ifCond .ne 10, 3)], [(34, .iload_n 2, 1), (35, .ifCond .ge 6, 3), (38, .bipush (-2), 2), (40, .ireturn, 1), (41, .iconst 0, 1), (42, .istore 6, 2), (44, .iload 6, 2), (46, .aload_n 0, 1), (47, .getfield 26, 3)], [(50, .getfield 107, 3), (53, .if_icmp .ge 63, 3), (56, .iload 5, 2), (58, .ifCond .ne 13, 3), (61, .iload 6, 2), (63, .iload_n 2, 1)], [(64, .if_icmp .ge 7, 3), (67, .iconst 1, 1), (68, .goto 4, 3), (71, .iconst 0, 1), (72, .istore 7, 2), (74, .aload_n 0, 1), (75, .getfield 33, 3), (78, .getfield 140, 3)], [(81, .iload 6, 2), (83, .iload 7, 2), (85, .ifCond .eq 23, 3), (88, .iload_n 1, 1), (89, .iload_n 3, 1), (90, .iload 6, 2), (92, .iload 4, 2), (94, .imul, 1), (95, .iadd, 1)], [(96, .invokestatic 193, 3), (99, .sipush 999, 3), (102, .invokestatic 196, 3), (105, .goto 4, 3), (108, .iconst 0, 1), (109, .iastore, 1), (110, .iinc 6 1, 3)], [(113, .goto (-69), 3), (116, .iload 5, 2), (118, .ifCond .eq 8, 3), (121, .bipush (-3), 2), (123, .goto 14, 3), (126, .aload_n 0, 1), (127, .getfield 26, 3)], [(130, .aload_n 0, 1), (131, .getfield 33, 3), (134, .invokevirtual 199, 3), (137, .ireturn, 1)]]
def im_96 : List (List (Nat × Instr × Nat)) := [[(0, .aload_n 0, 1), (1, .iload_n 1, 1), (2, .iload_n 2, 1), (3, .invokevirtual 203, 3), (6, .istore_n 3, 1), (7, .iload_n 3, 1), (8, .ifCond .ge 5, 3), (11, .iload_n 3, 1), (12, .ireturn, 1), (13, .aload_n 0, 1), (14, .getfield 43, 3)], [(17, .aload_n 0, 1), (18, .getfield 33, 3), (21, .invokevirtual 206, 3), (24, .aload_n 0, 1), (25, .getfield 33, 3), (28, .getfield 184, 3), (31, .iload_n 1, 1)], [(32, .iaload, 1), (33, .istore 4, 2), (35, .aload_n 0, 1), (36, .getfield 26, 3), (39, .aload_n 0, 1), (40, .getfield 56, 3), (43, .aload_n 0, 1), (44, .getfield 33, 3), (47, .iload_n 1, 1)], [(48, .iload_n 2, 1), (49, .invokevirtual 210, 3), (52, .istore 5, 2), (54, .aload_n 0, 1), (55, .getfield 33, 3), (58, .iload_n 1, 1), (59, .iload_n 2, 1), (60, .invokevirtual 214, 3), (63, .ifCond .eq 7, 3)], [(66, .iconst 1, 1), (67, .goto 4, 3), (70, .iconst 0, 1), (71, .istore 6, 2), (73, .aload_n 0, 1), (74, .getfield 26, 3), (77, .aload_n 0, 1), (78, .getfield 33, 3)], [(81, .iload_n 1, 1), (82, .iload_n 2, 1), (83, .iload 5, 2), (85, .invokevirtual 217, 3), (88, .aload_n 0, 1), (89, .getfield 19, 3), (92, .iload 5, 2), (94, .i2l, 1), (95, .iload 6, 2)], [(97, .i2l, 1), (98, .invokevirtual 221, 3), (101, .aload_n 0, 1), (102, .getfield 33, 3), (105, .getfield 163, 3), (108, .iload_n 2, 1), (109, .iload 4, 2), (111, .invokestatic 160, 3)], [(114, .iaload, 1), (115, .ireturn, 1)]]
def im_97 : List (List (Nat × Instr × Nat)) := [[(0, .iload_n 1, 1), (1, .ifCond .lt 9, 3), (4, .iload_n 1, 1), (5, .bipush 60, 2), (7, .if_icmp .le 5, 3), (10, .iconst (-1), 1), (11, .ireturn, 1), (12, .aload_n 0, 1), (13, .getfield 43, 3)], [(16, .aload_n 0, 1), (17, .getfield 33, 3), (20, .invokevirtual 206, 3), (23, .aload_n 0, 1), (24, .getfield 33, 3), (27, .getfield 225, 3), (30, .istore_n 2, 1), (31, .aload_n 0, 1)], [(32, .iload_n 1, 1), (33, .invokevirtual 228, 3), (36, .aload_n 0, 1), (37, .getfield 33, 3), (40, .getfield 225, 3), (43, .iload_n 2, 1), (44, .iconst (-1), 1), (45, .ixor, 1), (46, .iand, 1), (47, .istore_n 3, 1)], [(48, .aload_n 0, 1), (49, .getfield 19, 3), (52, .iload_n 3, 1), (53, .i2l, 1), (54, .aload_n 0, 1), (55, .getfield 26, 3), (58, .aload_n 0, 1), (59, .getfield 33, 3), (62, .invokevirtual 199, 3)], [(65, .i2l, 1), (66, .invokevirtual 221, 3), (69, .iload_n 3, 1), (70, .invokestatic 231, 3), (73, .ireturn, 1)]]
def im_98 : List (List (Nat × Instr × Nat)) := [[(0, .aload_n 0, 1), (1, .iload_n 1, 1), (2, .iload_n 2, 1), (3, .iload_n 3, 1), (4, .invokevirtual 237, 3), (7, .ifCond .eq 5, 3), (10, .iconst (-1), 1), (11, .ireturn, 1), (12, .aload_n 0, 1), (13, .getfield 43, 3)], [(16, .aload_n 0, 1), (17, .getfield 33, 3), (20, .invokevirtual 206, 3), (23, .aload_n 0, 1), (24, .iload_n 1, 1), (25, .iload_n 2, 1), (26, .iload_n 3, 1), (27, .invokevirtual 241, 3), (30, .aload_n 0, 1), (31, .getfield 33, 3)], [(34, .getfield 163, 3), (37, .iload_n 1, 1), (38, .iload_n 2, 1), (39, .invokestatic 160, 3), (42, .iaload, 1), (43, .ireturn, 1)]]
def im_99 : List (List (Nat × Instr × Nat)) := [[(0, .aload_n 0, 1), (1, .iload_n 1, 1), (2, .iload_n 2, 1), (3, .invokevirtual 245, 3), (6, .istore_n 3, 1), (7, .iload_n 3, 1), (8, .ifCond .ge 5, 3), (11, .iload_n 3, 1), (12, .ireturn, 1), (13, .aload_n 0, 1), (14, .getfield 43, 3)], [(17, .aload_n 0, 1), (18, .getfield 33, 3), (21, .invokevirtual 206, 3), (24, .aload_n 0, 1), (25, .getfield 33, 3), (28, .getfield 166, 3), (31, .iload_n 1, 1)], [(32, .iload_n 2, 1), (33, .invokestatic 160, 3), (36, .iaload, 1), (37, .istore 4, 2), (39, .aload_n 0, 1), (40, .getfield 33, 3), (43, .getfield 166, 3), (46, .iload_n 1, 1), (47, .iload_n 2, 1)], [(48, .invokestatic 160, 3), (51, .iconst 0, 1), (52, .iastore, 1), (53, .iload 4, 2), (55, .ireturn, 1)]]
def im_100 : List (List (Nat × Instr × Nat)) := [[(0, .aload_n 0, 1), (1, .invokevirtual 248, 3), (4, .istore_n 1, 1), (5, .iload_n 1, 1), (6, .ifCond .lt 15, 3), (9, .aload_n 0, 1), (10, .getfield 12, 3), (13, .iconst 0, 1), (14, .putfield 99, 3)], [(17, .iconst (-1), 1), (18, .iload_n 1, 1), (19, .isub, 1), (20, .ireturn, 1), (21, .aload_n 0, 1), (22, .getfield 43, 3), (25, .aload_n 0, 1), (26, .getfield 33, 3), (29, .invokevirtual 251, 3)], [(32, .iconst 0, 1), (33, .istore_n 2, 1), (34, .iconst 0, 1), (35, .istore_n 3, 1), (36, .iconst 0, 1), (37, .istore 4, 2), (39, .iconst 0, 1), (40, .istore 5, 2), (42, .iload 5, 2), (44, .bipush 60, 2), (46, .if_icmp .ge 61, 3)], [(49, .iload 4, 2), (51, .aload_n 0, 1), (52, .getfield 12, 3), (55, .getfield 99, 3), (58, .if_icmp .ge 49, 3), (61, .iload_n 3, 1), (62, .ifCond .ne 45, 3)], [(65, .aload_n 0, 1), (66, .iload 4, 2), (68, .invokevirtual 254, 3), (71, .ifCond .eq 9, 3), (74, .iinc 2 1, 3), (77, .goto 5, 3)], [(80, .iconst 1, 1), (81, .istore_n 3, 1), (82, .iload 4, 2), (84, .aload_n 0, 1), (85, .getfield 12, 3), (88, .iload 4, 2), (90, .bipush 60, 2), (92, .invokevirtual 257, 3), (95, .invokestatic 260, 3)], [(98, .iadd, 1), (99, .istore 4, 2), (101, .iinc 5 1, 3), (104, .goto (-62), 3), (107, .aload_n 0, 1), (108, .getfield 12, 3), (111, .iconst 0, 1)], [(112, .putfield 99, 3), (115, .iload_n 2, 1), (116, .ifCond .le 10, 3), (119, .aload_n 0, 1), (120, .getfield 43, 3), (123, .invokevirtual 263, 3), (126, .aload_n 0, 1), (127, .getfield 19, 3)], [(130, .iload_n 3, 1), (131, .ifCond .eq 7, 3), (134, .lconst 1, 1), (135, .goto 4, 3), (138, .lconst 0, 1), (139, .aload_n 0, 1), (140, .getfield 33, 3), (143, .getfield 225, 3)], [(146, .invokestatic 231, 3), (149, .i2l, 1), (150, .invokevirtual 221, 3), (153, .iload_n 2, 1), (154, .ireturn, 1)]]
def im_101 : List (List (Nat × Instr × Nat)) := [[(0, .aload_n 0, 1), (1, .getfield 43, 3), (4, .aload_n 0, 1), (5, .getfield 33, 3), (8, .invokevirtual 266, 3), (11, .ifCond .eq 13, 3), (14, .aload_n 0, 1), (15, .getfield 43, 3)], [(18, .getfield 270, 3), (21, .goto 4, 3), (24, .iconst (-1), 1), (25, .ireturn, 1)]]
def im_102 : List (List (Nat × Instr × Nat)) := [[(0, .aload_n 0, 1), (1, .getfield 26, 3), (4, .iload_n 1, 1), (5, .invokevirtual 172, 3), (8, .ifCond .eq 14, 3), (11, .aload_n 0, 1), (12, .getfield 26, 3), (15, .iload_n 2, 1)], [(16, .invokevirtual 126, 3), (19, .ifCond .ne 5, 3), (22, .iconst (-1), 1), (23, .ireturn, 1), (24, .aload_n 0, 1), (25, .getfield 26, 3), (28, .aload_n 0, 1), (29, .getfield 56, 3)], [(32, .aload_n 0, 1), (33, .getfield 33, 3), (36, .iload_n 1, 1), (37, .iload_n 2, 1), (38, .invokevirtual 210, 3), (41, .ireturn, 1)]]
def im_103 : List (List (Nat × Instr × Nat)) := [[(0, .aload_n 0, 1), (1, .getfield 26, 3), (4, .iload_n 1, 1), (5, .invokevirtual 172, 3), (8, .ifCond .ne 5, 3), (11, .iconst (-1), 1), (12, .ireturn, 1), (13, .bipush (-2), 2), (15, .istore_n 2, 1)], [(16, .iconst (-1), 1), (17, .istore_n 3, 1), (18, .sipush 999, 3), (21, .istore 4, 2), (23, .iconst 0, 1), (24, .istore 5, 2), (26, .iload 5, 2), (28, .aload_n 0, 1), (29, .getfield 26, 3)], [(32, .getfield 107, 3), (35, .if_icmp .ge 64, 3), (38, .iload 5, 2), (40, .aload_n 0, 1), (41, .getfield 33, 3), (44, .getfield 184, 3), (47, .iload_n 1, 1)], [(48, .iaload, 1), (49, .if_icmp .eq 44, 3), (52, .aload_n 0, 1), (53, .getfield 26, 3), (56, .aload_n 0, 1), (57, .getfield 56, 3), (60, .aload_n 0, 1), (61, .getfield 33, 3)], [(64, .iload_n 1, 1), (65, .iload 5, 2), (67, .invokevirtual 210, 3), (70, .istore 6, 2), (72, .iload 6, 2), (74, .iload_n 3, 1), (75, .if_icmp .le 9, 3), (78, .iload 6, 2)], [(80, .istore_n 3, 1), (81, .iload 5, 2), (83, .istore_n 2, 1), (84, .iload 4, 2), (86, .iload 6, 2), (88, .invokestatic 273, 3), (91, .istore 4, 2), (93, .iinc 5 1, 3)], [(96, .goto (-70), 3), (99, .iload_n 2, 1), (100, .ifCond .lt 15, 3), (103, .aload_n 0, 1), (104, .getfield 19, 3), (107, .iload_n 3, 1), (108, .i2l, 1), (109, .iload 4, 2), (111, .i2l, 1)], [(112, .invokevirtual 221, 3), (115, .iload_n 2, 1), (116, .ireturn, 1)]]
def im_104 : List (List (Nat × Instr × Nat)) := [[(0, .aload_n 0, 1), (1, .getfield 26, 3), (4, .iload_n 1, 1), (5, .iload_n 2, 1), (6, .invokevirtual 156, 3), (9, .ifCond .ne 5, 3), (12, .iconst (-1), 1), (13, .ireturn, 1), (14, .aload_n 0, 1), (15, .getfield 33, 3)], [(18, .getfield 163, 3), (21, .iload_n 2, 1), (22, .iload_n 1, 1), (23, .invokestatic 160, 3), (26, .iaload, 1), (27, .istore_n 3, 1), (28, .aload_n 0, 1), (29, .getfield 33, 3)], [(32, .getfield 166, 3), (35, .iload_n 1, 1), (36, .iload_n 2, 1), (37, .invokestatic 160, 3), (40, .iaload, 1), (41, .istore 4, 2), (43, .bipush (-2), 2), (45, .istore 5, 2), (47, .iconst (-1), 1)], [(48, .istore 6, 2), (50, .iconst 0, 1), (51, .istore 7, 2), (53, .iconst 0, 1), (54, .istore 8, 2), (56, .iload 8, 2), (58, .aload_n 0, 1), (59, .getfield 26, 3), (62, .getfield 120, 3)], [(65, .if_icmp .ge 132, 3), (68, .aload_n 0, 1), (69, .getfield 33, 3), (72, .getfield 184, 3), (75, .iload 8, 2), (77, .iaload, 1), (78, .iload_n 1, 1), (79, .if_icmp .ne 112, 3)], [(82, .aload_n 0, 1), (83, .getfield 26, 3), (86, .aload_n 0, 1), (87, .getfield 56, 3), (90, .aload_n 0, 1), (91, .getfield 33, 3), (94, .iload 8, 2)], [(96, .iload_n 2, 1), (97, .invokevirtual 210, 3), (100, .istore 9, 2), (102, .iload_n 3, 1), (103, .aload_n 0, 1), (104, .getfield 33, 3), (107, .iload 8, 2), (109, .iload_n 2, 1), (110, .iload 4, 2)], [(112, .iload 9, 2), (114, .invokevirtual 278, 3), (117, .iadd, 1), (118, .bipush 20, 2), (120, .invokestatic 196, 3), (123, .istore 10, 2), (125, .iload 5, 2), (127, .ifCond .lt 37, 3)], [(130, .iload 10, 2), (132, .iload 6, 2), (134, .if_icmp .ne 30, 3), (137, .aload_n 0, 1), (138, .getfield 26, 3), (141, .getfield 178, 3)], [(144, .iload 8, 2), (146, .iaload, 1), (147, .aload_n 0, 1), (148, .getfield 26, 3), (151, .getfield 178, 3), (154, .iload 5, 2), (156, .iaload, 1), (157, .if_icmp .ge 7, 3)], [(160, .iconst 1, 1), (161, .goto 4, 3), (164, .iconst 0, 1), (165, .istore 11, 2), (167, .iload 10, 2), (169, .iload 6, 2), (171, .if_icmp .gt 8, 3), (174, .iload 11, 2)], [(176, .ifCond .eq 15, 3), (179, .iload 8, 2), (181, .istore 5, 2), (183, .iload 10, 2), (185, .istore 6, 2), (187, .iload 9, 2), (189, .istore 7, 2), (191, .iinc 8 1, 3)], [(194, .goto (-138), 3), (197, .iload 5, 2), (199, .ifCond .lt 16, 3), (202, .aload_n 0, 1), (203, .getfield 19, 3), (206, .iload 6, 2)], [(208, .i2l, 1), (209, .iload 7, 2), (211, .i2l, 1), (212, .invokevirtual 221, 3), (215, .iload 5, 2), (217, .ireturn, 1)]]
def im_105 : List (List (Nat × Instr × Nat)) := [[(0, .aload_n 0, 1), (1, .getfield 26, 3), (4, .iload_n 1, 1), (5, .iload_n 2, 1), (6, .invokevirtual 156, 3), (9, .ifCond .ne 5, 3), (12, .iconst (-1), 1), (13, .ireturn, 1), (14, .aload_n 0, 1), (15, .getfield 84, 3)], [(18, .aload_n 0, 1), (19, .getfield 56, 3), (22, .iload_n 1, 1), (23, .iload_n 2, 1), (24, .invokevirtual 282, 3), (27, .istore_n 3, 1), (28, .iload_n 3, 1), (29, .ifCond .lt 49, 3)], [(32, .aload_n 0, 1), (33, .getfield 19, 3), (36, .invokevirtual 286, 3), (39, .iconst 0, 1), (40, .istore 4, 2), (42, .iload 4, 2), (44, .iload_n 3, 1), (45, .if_icmp .ge 33, 3)], [(48, .iload 4, 2), (50, .iconst 4, 1), (51, .if_icmp .ge 27, 3), (54, .aload_n 0, 1), (55, .getfield 19, 3), (58, .aload_n 0, 1), (59, .getfield 84, 3), (62, .getfield 289, 3)], [(65, .iload 4, 2), (67, .iaload, 1), (68, .i2l, 1), (69, .invokevirtual 292, 3), (72, .iinc 4 1, 3), (75, .goto (-33), 3), (78, .iload_n 3, 1), (79, .ireturn, 1)]]
def im_106 : List (List (Nat × Instr × Nat)) := [[(0, .aload_n 0, 1), (1, .getfield 26, 3), (4, .iload_n 1, 1), (5, .invokevirtual 172, 3), (8, .ifCond .ne 5, 3), (11, .iconst (-1), 1), (12, .ireturn, 1), (13, .aload_n 0, 1), (14, .getfield 33, 3)], [(17, .getfield 187, 3), (20, .iload_n 1, 1), (21, .iaload, 1), (22, .iconst 1, 1), (23, .aload_n 0, 1), (24, .getfield 33, 3), (27, .getfield 184, 3), (30, .iload_n 1, 1), (31, .iaload, 1)], [(32, .ishl, 1), (33, .iconst (-1), 1), (34, .ixor, 1), (35, .iand, 1), (36, .istore_n 2, 1), (37, .iconst 0, 1), (38, .istore_n 3, 1), (39, .iconst 0, 1), (40, .istore 4, 2), (42, .iload 4, 2), (44, .aload_n 0, 1), (45, .getfield 26, 3)], [(48, .getfield 107, 3), (51, .if_icmp .ge 59, 3), (54, .aload_n 0, 1), (55, .getfield 26, 3), (58, .aload_n 0, 1), (59, .getfield 33, 3), (62, .iload 4, 2)], [(64, .invokevirtual 147, 3), (67, .iload_n 2, 1), (68, .iand, 1), (69, .ifCond .eq 7, 3), (72, .iconst 1, 1), (73, .goto 4, 3), (76, .iconst 0, 1), (77, .istore 5, 2), (79, .aload_n 0, 1)], [(80, .getfield 33, 3), (83, .iload_n 1, 1), (84, .iload 4, 2), (86, .invokevirtual 214, 3), (89, .ifCond .ne 15, 3), (92, .iload 5, 2), (94, .ifCond .ne 10, 3)], [(97, .iload_n 3, 1), (98, .iconst 1, 1), (99, .iload 4, 2), (101, .ishl, 1), (102, .ior, 1), (103, .istore_n 3, 1), (104, .iinc 4 1, 3), (107, .goto (-65), 3), (110, .aload_n 0, 1), (111, .getfield 19, 3)], [(114, .iload_n 3, 1), (115, .invokestatic 231, 3), (118, .i2l, 1), (119, .invokevirtual 296, 3), (122, .iload_n 3, 1), (123, .ireturn, 1)]]
def im_107 : List (List (Nat × Instr × Nat)) := [[(0, .iconst 0, 1), (1, .istore_n 1, 1), (2, .iconst 0, 1), (3, .istore_n 2, 1), (4, .aload_n 0, 1), (5, .getfield 19, 3), (8, .invokevirtual 286, 3), (11, .iconst 0, 1), (12, .istore_n 3, 1), (13, .iload_n 3, 1), (14, .aload_n 0, 1), (15, .getfield 26, 3)], [(18, .getfield 120, 3), (21, .if_icmp .ge 80, 3), (24, .iload_n 3, 1), (25, .iconst 1, 1), (26, .iadd, 1), (27, .istore 4, 2), (29, .iload 4, 2), (31, .aload_n 0, 1)], [(32, .getfield 26, 3), (35, .getfield 120, 3), (38, .if_icmp .ge 57, 3), (41, .aload_n 0, 1), (42, .iload_n 3, 1), (43, .iload 4, 2), (45, .invokevirtual 299, 3)], [(48, .istore 5, 2), (50, .iload 5, 2), (52, .ifCond .le 6, 3), (55, .iinc 1 1, 3), (58, .iload 5, 2), (60, .iload_n 2, 1), (61, .if_icmp .le 28, 3)], [(64, .iload 5, 2), (66, .istore_n 2, 1), (67, .aload_n 0, 1), (68, .getfield 19, 3), (71, .iload_n 3, 1), (72, .i2l, 1), (73, .iload 4, 2), (75, .i2l, 1), (76, .invokevirtual 221, 3), (79, .aload_n 0, 1)], [(80, .getfield 19, 3), (83, .iload 5, 2), (85, .i2l, 1), (86, .invokevirtual 292, 3), (89, .iinc 4 1, 3), (92, .goto (-63), 3), (95, .iinc 3 1, 3)], [(98, .goto (-85), 3), (101, .iload_n 1, 1), (102, .ireturn, 1)]]
def im_108 : List (List (Nat × Instr × Nat)) := [[(0, .aload_n 0, 1), (1, .getfield 26, 3), (4, .iload_n 1, 1), (5, .invokevirtual 126, 3), (8, .ifCond .eq 14, 3), (11, .aload_n 0, 1), (12, .getfield 26, 3), (15, .iload_n 2, 1)], [(16, .invokevirtual 126, 3), (19, .ifCond .ne 5, 3), (22, .iconst (-1), 1), (23, .ireturn, 1), (24, .aload_n 0, 1), (25, .getfield 68, 3), (28, .iload_n 1, 1), (29, .iload_n 2, 1), (30, .invokevirtual 302, 3)], [(33, .istore_n 3, 1), (34, .iload_n 3, 1), (35, .ifCond .ge 6, 3), (38, .bipush (-2), 2), (40, .ireturn, 1), (41, .aload_n 0, 1), (42, .getfield 68, 3), (45, .iload_n 1, 1), (46, .aload_n 0, 1), (47, .getfield 19, 3)], [(50, .invokevirtual 305, 3), (53, .iload_n 3, 1), (54, .ireturn, 1)]]
def im_109 : List (List (Nat × Instr × Nat)) := [[(0, .iload_n 3, 1), (1, .ifCond .lt 25, 3), (4, .iload_n 3, 1), (5, .bipush 9, 2), (7, .if_icmp .gt 19, 3), (10, .iload 4, 2), (12, .ifCond .lt 14, 3), (15, .iload 4, 2)], [(17, .bipush 99, 2), (19, .if_icmp .gt 7, 3), (22, .iconst 1, 1), (23, .goto 4, 3), (26, .iconst 0, 1), (27, .istore 5, 2), (29, .iload 5, 2), (31, .ifCond .eq 25, 3)], [(34, .aload_n 0, 1), (35, .getfield 26, 3), (38, .iload_n 1, 1), (39, .invokevirtual 126, 3), (42, .ifCond .eq 14, 3), (45, .aload_n 0, 1), (46, .getfield 26, 3)], [(49, .iload_n 2, 1), (50, .invokevirtual 126, 3), (53, .ifCond .ne 5, 3), (56, .iconst (-1), 1), (57, .ireturn, 1), (58, .aload_n 0, 1), (59, .getfield 68, 3), (62, .iload_n 1, 1), (63, .iload_n 2, 1)], [(64, .iload_n 3, 1), (65, .iload 4, 2), (67, .invokevirtual 309, 3), (70, .ireturn, 1)]]
def im_110 : List (List (Nat × Instr × Nat)) := [[(0, .aload_n 0, 1), (1, .getfield 26, 3), (4, .iload_n 1, 1), (5, .iload_n 2, 1), (6, .invokevirtual 156, 3), (9, .ifCond .eq 13, 3), (12, .iload_n 3, 1), (13, .ifCond .lt 9, 3)], [(16, .iload_n 3, 1), (17, .bipush 10, 2), (19, .if_icmp .le 5, 3), (22, .iconst (-1), 1), (23, .ireturn, 1), (24, .aload_n 0, 1), (25, .getfield 68, 3), (28, .iload_n 1, 1), (29, .iload_n 2, 1), (30, .invokevirtual 302, 3)], [(33, .istore 4, 2), (35, .iload 4, 2), (37, .ifCond .lt 10, 3), (40, .iload 4, 2), (42, .bipush 12, 2), (44, .if_icmp .le 6, 3), (47, .bipush (-2), 2)], [(49, .ireturn, 1), (50, .aload_n 0, 1), (51, .bipush 10, 2), (53, .iload_n 3, 1), (54, .isub, 1), (55, .iload 4, 2), (57, .invokestatic 312, 3), (60, .bipush 10, 2), (62, .iload 4, 2)], [(64, .invokestatic 312, 3), (67, .invokevirtual 316, 3), (70, .iconst 0, 1), (71, .ireturn, 1)]]
def im_111 : List (List (Nat × Instr × Nat)) := [[(0, .aload_n 0, 1), (1, .getfield 26, 3), (4, .iload_n 1, 1), (5, .invokevirtual 126, 3), (8, .ifCond .ne 5, 3), (11, .iconst (-1), 1), (12, .ireturn, 1), (13, .aload_n 0, 1), (14, .getfield 37, 3)], [(17, .aload_n 0, 1), (18, .getfield 33, 3), (21, .invokevirtual 319, 3), (24, .aload_n 0, 1), (25, .getfield 26, 3), (28, .aload_n 0, 1), (29, .getfield 37, 3)], [(32, .iload_n 1, 1), (33, .invokevirtual 322, 3), (36, .istore_n 2, 1), (37, .iload_n 2, 1), (38, .bipush 99, 2), (40, .if_icmp .le 6, 3), (43, .bipush (-2), 2), (45, .ireturn, 1), (46, .aload_n 0, 1), (47, .getfield 19, 3)], [(50, .aload_n 0, 1), (51, .getfield 37, 3), (54, .getfield 225, 3), (57, .aload_n 0, 1), (58, .getfield 33, 3), (61, .getfield 225, 3)], [(64, .iconst (-1), 1), (65, .ixor, 1), (66, .iand, 1), (67, .invokestatic 325, 3), (70, .i2l, 1), (71, .aload_n 0, 1), (72, .getfield 37, 3), (75, .getfield 140, 3), (78, .iload_n 1, 1), (79, .iaload, 1)], [(80, .i2l, 1), (81, .invokevirtual 221, 3), (84, .iload_n 2, 1), (85, .ireturn, 1)]]
def im_112 : List (List (Nat × Instr × Nat)) := [[(0, .aload_n 0, 1), (1, .getfield 26, 3), (4, .iload_n 1, 1), (5, .iload_n 2, 1), (6, .invokevirtual 156, 3), (9, .ifCond .ne 5, 3), (12, .iconst (-1), 1), (13, .ireturn, 1), (14, .bipush (-2), 2)], [(16, .istore_n 3, 1), (17, .bipush 100, 2), (19, .istore 4, 2), (21, .iconst 0, 1), (22, .istore 5, 2), (24, .iload 5, 2), (26, .aload_n 0, 1), (27, .getfield 26, 3), (30, .getfield 120, 3)], [(33, .if_icmp .ge 89, 3), (36, .aload_n 0, 1), (37, .getfield 33, 3), (40, .getfield 184, 3), (43, .iload 5, 2), (45, .iaload, 1), (46, .iload_n 1, 1), (47, .if_icmp .ne 69, 3)], [(50, .aload_n 0, 1), (51, .getfield 26, 3), (54, .aload_n 0, 1), (55, .getfield 33, 3), (58, .iload 5, 2), (60, .invokevirtual 328, 3), (63, .ifCond .eq 53, 3)], [(66, .aload_n 0, 1), (67, .getfield 37, 3), (70, .aload_n 0, 1), (71, .getfield 33, 3), (74, .invokevirtual 319, 3), (77, .aload_n 0, 1), (78, .getfield 37, 3)], [(81, .getfield 184, 3), (84, .iload 5, 2), (86, .iload_n 2, 1), (87, .iastore, 1), (88, .aload_n 0, 1), (89, .getfield 26, 3), (92, .aload_n 0, 1), (93, .getfield 37, 3)], [(96, .iload_n 2, 1), (97, .invokevirtual 322, 3), (100, .istore 6, 2), (102, .iload 6, 2), (104, .iload 4, 2), (106, .if_icmp .ge 10, 3), (109, .iload 6, 2), (111, .istore 4, 2)], [(113, .iload 5, 2), (115, .istore_n 3, 1), (116, .iinc 5 1, 3), (119, .goto (-95), 3), (122, .iload_n 3, 1), (123, .ifCond .lt 13, 3), (126, .aload_n 0, 1), (127, .getfield 19, 3)], [(130, .iload 4, 2), (132, .i2l, 1), (133, .invokevirtual 296, 3), (136, .iload_n 3, 1), (137, .ireturn, 1)]]
def im_113 : List (List (Nat × Instr × Nat)) := [[(0, .aload_n 0, 1), (1, .getfield 26, 3), (4, .iload_n 1, 1), (5, .invokevirtual 126, 3), (8, .ifCond .ne 7, 3), (11, .ldc_w 332, 3), (14, .ireturn, 1), (15, .aload_n 0, 1)], [(16, .getfield 75, 3), (19, .aload_n 0, 1), (20, .getfield 33, 3), (23, .iload_n 1, 1), (24, .invokevirtual 333, 3), (27, .istore_n 2, 1), (28, .aload_n 0, 1), (29, .getfield 75, 3)], [(32, .aload_n 0, 1), (33, .getfield 33, 3), (36, .iload_n 1, 1), (37, .invokevirtual 153, 3), (40, .istore_n 3, 1), (41, .aload_n 0, 1), (42, .getfield 19, 3), (45, .iload_n 2, 1), (46, .i2l, 1), (47, .iload_n 3, 1)], [(48, .i2l, 1), (49, .invokevirtual 221, 3), (52, .iload_n 2, 1), (53, .iload_n 3, 1), (54, .isub, 1), (55, .ireturn, 1)]]
def im_114 : List (List (Nat × Instr × Nat)) := [[(0, .aload_n 0, 1), (1, .getfield 75, 3), (4, .aload_n 0, 1), (5, .getfield 33, 3), (8, .invokevirtual 336, 3), (11, .istore_n 1, 1), (12, .aload_n 0, 1), (13, .getfield 19, 3)], [(16, .iload_n 1, 1), (17, .i2l, 1), (18, .invokevirtual 296, 3), (21, .aload_n 0, 1), (22, .getfield 75, 3), (25, .iload_n 1, 1), (26, .invokevirtual 339, 3), (29, .ireturn, 1)]]
def im_115 : List (List (Nat × Instr × Nat)) := [[(0, .aload_n 0, 1), (1, .getfield 75, 3), (4, .aload_n 0, 1), (5, .getfield 33, 3), (8, .invokevirtual 342, 3), (11, .istore_n 1, 1), (12, .iload_n 1, 1), (13, .ifCond .ge 6, 3)], [(16, .bipush (-2), 2), (18, .ireturn, 1), (19, .aload_n 0, 1), (20, .getfield 19, 3), (23, .invokevirtual 286, 3), (26, .iconst 0, 1), (27, .istore_n 2, 1), (28, .iload_n 2, 1), (29, .iload_n 1, 1), (30, .if_icmp .ge 32, 3)], [(33, .iload_n 2, 1), (34, .bipush 6, 2), (36, .if_icmp .ge 26, 3), (39, .aload_n 0, 1), (40, .getfield 19, 3), (43, .aload_n 0, 1), (44, .getfield 75, 3), (47, .getfield 345, 3)], [(50, .iload_n 2, 1), (51, .iaload, 1), (52, .i2l, 1), (53, .invokevirtual 292, 3), (56, .iinc 2 1, 3), (59, .goto (-31), 3), (62, .aload_n 0, 1), (63, .getfield 19, 3)], [(66, .aload_n 0, 1), (67, .getfield 75, 3), (70, .aload_n 0, 1), (71, .getfield 33, 3), (74, .iload_n 1, 1), (75, .invokevirtual 348, 3), (78, .i2l, 1), (79, .invokevirtual 292, 3)], [(82, .iload_n 1, 1), (83, .ireturn, 1)]]
def im_116 : List (List (Nat × Instr × Nat)) := [[(0, .aload_n 0, 1), (1, .iconst 0, 1), (2, .invokevirtual 351, 3), (5, .istore_n 1, 1), (6, .iload_n 1, 1), (7, .ifCond .ge 6, 3), (10, .bipush (-2), 2), (12, .ireturn, 1), (13, .iconst 0, 1), (14, .istore_n 2, 1), (15, .aload_n 0, 1)], [(16, .getfield 19, 3), (19, .invokevirtual 286, 3), (22, .iconst 0, 1), (23, .istore_n 3, 1), (24, .iload_n 3, 1), (25, .aload_n 0, 1), (26, .getfield 26, 3), (29, .getfield 107, 3)], [(32, .if_icmp .ge 38, 3), (35, .aload_n 0, 1), (36, .iload_n 2, 1), (37, .invokevirtual 351, 3), (40, .istore 4, 2), (42, .iload 4, 2), (44, .ifCond .lt 20, 3), (47, .iload_n 2, 1)], [(48, .iconst 1, 1), (49, .iload 4, 2), (51, .ishl, 1), (52, .ior, 1), (53, .istore_n 2, 1), (54, .aload_n 0, 1), (55, .getfield 19, 3), (58, .iload 4, 2), (60, .i2l, 1), (61, .invokevirtual 292, 3)], [(64, .iinc 3 1, 3), (67, .goto (-43), 3), (70, .aload_n 0, 1), (71, .getfield 19, 3), (74, .aload_n 0, 1), (75, .getfield 26, 3), (78, .aload_n 0, 1), (79, .getfield 33, 3)], [(82, .iload_n 1, 1), (83, .invokevirtual 354, 3), (86, .i2l, 1), (87, .invokevirtual 292, 3), (90, .iload_n 1, 1), (91, .ireturn, 1)]]
def im_117 : List (List (Nat × Instr × Nat)) := [[(0, .iconst 0, 1), (1, .istore_n 1, 1), (2, .iconst 1, 1), (3, .istore_n 2, 1), (4, .iload_n 2, 1), (5, .iconst 1, 1), (6, .aload_n 0, 1), (7, .getfield 26, 3), (10, .getfield 107, 3), (13, .ishl, 1), (14, .if_icmp .ge 30, 3)], [(17, .iload_n 2, 1), (18, .invokestatic 231, 3), (21, .iload_n 1, 1), (22, .invokestatic 231, 3), (25, .if_icmp .le 13, 3), (28, .aload_n 0, 1), (29, .iload_n 2, 1), (30, .invokevirtual 357, 3)], [(33, .ifCond .eq 5, 3), (36, .iload_n 2, 1), (37, .istore_n 1, 1), (38, .iinc 2 1, 3), (41, .goto (-37), 3), (44, .aload_n 0, 1), (45, .getfield 19, 3)], [(48, .iload_n 1, 1), (49, .i2l, 1), (50, .invokevirtual 296, 3), (53, .iload_n 1, 1), (54, .invokestatic 231, 3), (57, .ireturn, 1)]]
def im_118 : List (List (Nat × Instr × Nat)) := [[(0, .aload_n 0, 1), (1, .getfield 91, 3), (4, .iload_n 1, 1), (5, .iload_n 2, 1), (6, .invokevirtual 360, 3), (9, .ifCond .eq 13, 3), (12, .aload_n 0, 1), (13, .getfield 91, 3)], [(16, .getfield 363, 3), (19, .goto 4, 3), (22, .iconst (-1), 1), (23, .ireturn, 1)]]
def im_119 : List (List (Nat × Instr × Nat)) := [[(0, .aload_n 0, 1), (1, .getfield 91, 3), (4, .getfield 363, 3), (7, .istore_n 1, 1), (8, .aload_n 0, 1), (9, .getfield 91, 3), (12, .iconst 0, 1), (13, .putfield 363, 3)], [(16, .iload_n 1, 1), (17, .ireturn, 1)]]
def im_120 : List (List (Nat × Instr × Nat)) := [[(0, .aload_n 0, 1), (1, .getfield 91, 3), (4, .aload_n 0, 1), (5, .getfield 33, 3), (8, .invokevirtual 364, 3), (11, .istore_n 1, 1), (12, .iconst 0, 1), (13, .istore_n 2, 1), (14, .iconst 0, 1), (15, .istore_n 3, 1)], [(16, .iload_n 3, 1), (17, .aload_n 0, 1), (18, .getfield 26, 3), (21, .getfield 120, 3), (24, .if_icmp .ge 29, 3), (27, .iload_n 1, 1), (28, .iload_n 3, 1), (29, .ishr, 1), (30, .iconst 1, 1), (31, .iand, 1)], [(32, .ifCond .eq 15, 3), (35, .iload_n 2, 1), (36, .aload_n 0, 1), (37, .getfield 26, 3), (40, .getfield 178, 3), (43, .iload_n 3, 1), (44, .iaload, 1), (45, .iadd, 1), (46, .istore_n 2, 1), (47, .iinc 3 1, 3)], [(50, .goto (-34), 3), (53, .aload_n 0, 1), (54, .getfield 19, 3), (57, .iload_n 1, 1), (58, .invokestatic 231, 3), (61, .i2l, 1), (62, .iload_n 2, 1), (63, .i2l, 1)], [(64, .invokevirtual 221, 3), (67, .iload_n 1, 1), (68, .ireturn, 1)]]
def im_121 : List (List (Nat × Instr × Nat)) := [[(0, .aload_n 0, 1), (1, .getfield 91, 3), (4, .aload_n 0, 1), (5, .getfield 33, 3), (8, .invokevirtual 364, 3), (11, .istore_n 1, 1), (12, .iload_n 1, 1), (13, .ifCond .ne 6, 3)], [(16, .bipush (-2), 2), (18, .ireturn, 1), (19, .bipush (-2), 2), (21, .istore_n 2, 1), (22, .bipush 9, 2), (24, .istore_n 3, 1), (25, .iconst 0, 1), (26, .istore 4, 2), (28, .iload 4, 2), (30, .aload_n 0, 1), (31, .getfield 26, 3)], [(34, .getfield 107, 3), (37, .if_icmp .ge 55, 3), (40, .iload_n 1, 1), (41, .aload_n 0, 1), (42, .getfield 26, 3), (45, .aload_n 0, 1), (46, .getfield 33, 3)], [(49, .iload 4, 2), (51, .invokevirtual 367, 3), (54, .iand, 1), (55, .invokestatic 231, 3), (58, .istore 5, 2), (60, .iload 5, 2), (62, .iload_n 1, 1), (63, .invokestatic 231, 3)], [(66, .iload 5, 2), (68, .isub, 1), (69, .invokestatic 370, 3), (72, .istore 6, 2), (74, .iload 6, 2), (76, .iload_n 3, 1), (77, .if_icmp .ge 9, 3)], [(80, .iload 6, 2), (82, .istore_n 3, 1), (83, .iload 4, 2), (85, .istore_n 2, 1), (86, .iinc 4 1, 3), (89, .goto (-61), 3), (92, .iload_n 2, 1), (93, .ifCond .lt 12, 3)], [(96, .aload_n 0, 1), (97, .getfield 19, 3), (100, .iload_n 3, 1), (101, .i2l, 1), (102, .invokevirtual 296, 3), (105, .iload_n 2, 1), (106, .ireturn, 1)]]
def im_122 : List (List (Nat × Instr × Nat)) := [[(0, .aload_n 0, 1), (1, .getfield 60, 3), (4, .invokevirtual 123, 3), (7, .istore_n 1, 1), (8, .aload_n 0, 1), (9, .getfield 12, 3), (12, .iconst 0, 1), (13, .putfield 99, 3)], [(16, .iload_n 1, 1), (17, .ifCond .lt 9, 3), (20, .sipush (-10000), 3), (23, .iload_n 1, 1), (24, .isub, 1), (25, .ireturn, 1), (26, .aload_n 0, 1), (27, .aload_n 0, 1), (28, .getfield 60, 3), (31, .invokevirtual 373, 3)], [(34, .istore_n 2, 1), (35, .aload_n 0, 1), (36, .aload_n 0, 1), (37, .getfield 56, 3), (40, .invokevirtual 373, 3), (43, .istore_n 3, 1), (44, .aload_n 0, 1), (45, .getfield 19, 3)], [(48, .iload_n 2, 1), (49, .i2l, 1), (50, .iload_n 3, 1), (51, .i2l, 1), (52, .invokevirtual 221, 3), (55, .iload_n 2, 1), (56, .iload_n 3, 1), (57, .isub, 1), (58, .ireturn, 1)]]
def im_123 : List (List (Nat × Instr × Nat)) := [[(0, .iload_n 1, 1), (1, .ifCond .lt 9, 3), (4, .iload_n 1, 1), (5, .bipush 20, 2), (7, .if_icmp .le 5, 3), (10, .iconst (-1), 1), (11, .ireturn, 1), (12, .iconst 0, 1), (13, .istore_n 2, 1), (14, .aload_n 0, 1), (15, .getfield 19, 3)], [(18, .invokevirtual 286, 3), (21, .iconst 0, 1), (22, .istore_n 3, 1), (23, .iload_n 3, 1), (24, .bipush 9, 2), (26, .if_icmp .gt 64, 3), (29, .iconst 0, 1), (30, .istore 4, 2)], [(32, .iload 4, 2), (34, .bipush 9, 2), (36, .if_icmp .gt 48, 3), (39, .iload_n 3, 1), (40, .iload 4, 2), (42, .iload_n 1, 1), (43, .invokestatic 377, 3), (46, .ifCond .eq 32, 3)], [(49, .iload 4, 2), (51, .iload_n 3, 1), (52, .iload_n 1, 1), (53, .invokestatic 377, 3), (56, .ifCond .eq 22, 3), (59, .iload_n 2, 1), (60, .ifCond .ne 15, 3), (63, .aload_n 0, 1)], [(64, .getfield 19, 3), (67, .iload_n 3, 1), (68, .i2l, 1), (69, .iload 4, 2), (71, .i2l, 1), (72, .invokevirtual 221, 3), (75, .iinc 2 1, 3), (78, .iinc 4 1, 3)], [(81, .goto (-49), 3), (84, .iinc 3 1, 3), (87, .goto (-64), 3), (90, .iload_n 2, 1), (91, .ireturn, 1)]]
def im_124 : List (List (Nat × Instr × Nat)) := [[(0, .iload_n 2, 1), (1, .iconst 1, 1), (2, .if_icmp .lt 9, 3), (5, .iload_n 2, 1), (6, .bipush 60, 2), (8, .if_icmp .le 5, 3), (11, .iconst (-1), 1), (12, .ireturn, 1), (13, .aload_n 0, 1), (14, .getfield 37, 3)], [(17, .aload_n 0, 1), (18, .getfield 33, 3), (21, .invokevirtual 319, 3), (24, .iload_n 1, 1), (25, .istore_n 3, 1), (26, .iconst 0, 1), (27, .istore 4, 2), (29, .iconst 0, 1), (30, .istore 5, 2)], [(32, .iload 5, 2), (34, .iload_n 2, 1), (35, .if_icmp .ge 103, 3), (38, .iload_n 3, 1), (39, .invokestatic 380, 3), (42, .istore_n 3, 1), (43, .iload_n 3, 1), (44, .iconst 3, 1), (45, .invokestatic 383, 3)], [(48, .ifCond .ne 17, 3), (51, .aload_n 0, 1), (52, .getfield 26, 3), (55, .aload_n 0, 1), (56, .getfield 37, 3), (59, .invokevirtual 386, 3), (62, .goto 70, 3)], [(65, .aload_n 0, 1), (66, .getfield 26, 3), (69, .getfield 120, 3), (72, .ifCond .le 60, 3), (75, .iload_n 3, 1), (76, .invokestatic 380, 3), (79, .istore_n 3, 1)], [(80, .iload_n 3, 1), (81, .aload_n 0, 1), (82, .getfield 26, 3), (85, .getfield 120, 3), (88, .invokestatic 383, 3), (91, .istore 6, 2), (93, .iload_n 3, 1), (94, .invokestatic 380, 3)], [(97, .istore_n 3, 1), (98, .iload_n 3, 1), (99, .aload_n 0, 1), (100, .getfield 26, 3), (103, .getfield 107, 3), (106, .invokestatic 383, 3), (109, .istore 7, 2), (111, .iload 4, 2)], [(113, .aload_n 0, 1), (114, .iload 6, 2), (116, .iload 7, 2), (118, .invokevirtual 389, 3), (121, .ifCond .eq 7, 3), (124, .iconst 1, 1), (125, .goto 4, 3)], [(128, .iconst 0, 1), (129, .iadd, 1), (130, .istore 4, 2), (132, .iinc 5 1, 3), (135, .goto (-103), 3), (138, .aload_n 0, 1), (139, .getfield 19, 3), (142, .aload_n 0, 1), (143, .getfield 37, 3)], [(146, .getfield 225, 3), (149, .invokestatic 231, 3), (152, .i2l, 1), (153, .aload_n 0, 1), (154, .getfield 26, 3), (157, .aload_n 0, 1), (158, .getfield 37, 3)], [(161, .invokevirtual 392, 3), (164, .i2l, 1), (165, .invokevirtual 221, 3), (168, .iload 4, 2), (170, .ireturn, 1)]]
def im_125 : List (List (Nat × Instr × Nat)) := [[(0, .iload_n 1, 1), (1, .ifCond .lt 8, 3), (4, .iload_n 1, 1), (5, .iconst 3, 1), (6, .if_icmp .lt 5, 3), (9, .iconst 0, 1), (10, .ireturn, 1), (11, .aload_n 0, 1), (12, .getfield 47, 3), (15, .iload_n 1, 1)], [(16, .aaload, 1), (17, .aload_n 0, 1), (18, .getfield 33, 3), (21, .invokevirtual 319, 3), (24, .aload_n 0, 1), (25, .dup, 1), (26, .getfield 395, 3), (29, .iconst 1, 1), (30, .iload_n 1, 1), (31, .ishl, 1)], [(32, .ior, 1), (33, .putfield 395, 3), (36, .iconst 1, 1), (37, .ireturn, 1)]]
def im_126 : List (List (Nat × Instr × Nat)) := [[(0, .iload_n 1, 1), (1, .ifCond .lt 19, 3), (4, .iload_n 1, 1), (5, .iconst 3, 1), (6, .if_icmp .ge 14, 3), (9, .aload_n 0, 1), (10, .getfield 395, 3), (13, .iload_n 1, 1), (14, .ishr, 1), (15, .iconst 1, 1)], [(16, .iand, 1), (17, .ifCond .ne 5, 3), (20, .iconst 0, 1), (21, .ireturn, 1), (22, .aload_n 0, 1), (23, .getfield 33, 3), (26, .aload_n 0, 1), (27, .getfield 47, 3), (30, .iload_n 1, 1), (31, .aaload, 1)], [(32, .invokevirtual 319, 3), (35, .aload_n 0, 1), (36, .getfield 43, 3), (39, .invokevirtual 398, 3), (42, .iconst 1, 1), (43, .ireturn, 1)]]
def im_127 : List (List (Nat × Instr × Nat)) := [[(0, .iload_n 1, 1), (1, .tableswitch 187 0 12 #[67, 75, 83, 91, 103, 111, 123, 135, 147, 155, 163, 171, 179], 67)], [], [], [], [(68, .aload_n 0, 1), (69, .getfield 26, 3), (72, .getfield 107, 3), (75, .ireturn, 1), (76, .aload_n 0, 1), (77, .getfield 26, 3)], [(80, .getfield 120, 3), (83, .ireturn, 1), (84, .aload_n 0, 1), (85, .getfield 33, 3), (88, .getfield 399, 3), (91, .ireturn, 1), (92, .aload_n 0, 1), (93, .getfield 26, 3)], [(96, .aload_n 0, 1), (97, .getfield 33, 3), (100, .invokevirtual 199, 3), (103, .ireturn, 1), (104, .aload_n 0, 1), (105, .getfield 33, 3), (108, .getfield 225, 3), (111, .ireturn, 1)], [(112, .aload_n 0, 1), (113, .getfield 26, 3), (116, .aload_n 0, 1), (117, .getfield 33, 3), (120, .invokevirtual 402, 3), (123, .ireturn, 1), (124, .aload_n 0, 1), (125, .getfield 26, 3)], [(128, .aload_n 0, 1), (129, .getfield 33, 3), (132, .invokevirtual 405, 3), (135, .ireturn, 1), (136, .aload_n 0, 1), (137, .getfield 75, 3), (140, .aload_n 0, 1), (141, .getfield 33, 3)], [(144, .invokevirtual 408, 3), (147, .ireturn, 1), (148, .aload_n 0, 1), (149, .getfield 26, 3), (152, .invokevirtual 411, 3), (155, .ireturn, 1), (156, .aload_n 0, 1), (157, .getfield 91, 3)], [(160, .getfield 363, 3), (163, .ireturn, 1), (164, .aload_n 0, 1), (165, .getfield 43, 3), (168, .getfield 270, 3), (171, .ireturn, 1), (172, .aload_n 0, 1), (173, .getfield 19, 3)], [(176, .getfield 414, 3), (179, .ireturn, 1), (180, .aload_n 0, 1), (181, .getfield 12, 3), (184, .getfield 99, 3), (187, .ireturn, 1), (188, .bipush (-100), 2), (190, .ireturn, 1)]]
def im_128 : List (List (Nat × Instr × Nat)) := [[(0, .iload_n 1, 1), (1, .ifCond .lt 14, 3), (4, .iload_n 1, 1), (5, .aload_n 0, 1), (6, .getfield 19, 3), (9, .getfield 414, 3), (12, .if_icmp .lt 11, 3), (15, .new 129, 3)], [(18, .dup, 1), (19, .invokespecial 131, 3), (22, .athrow, 1), (23, .aload_n 0, 1), (24, .getfield 19, 3), (27, .getfield 415, 3), (30, .iload_n 1, 1), (31, .laload, 1)], [(32, .lreturn, 1)]]
def im_129 : List (List (Nat × Instr × Nat)) := [[(0, .aload_n 0, 1), (1, .getfield 12, 3), (4, .getfield 99, 3), (7, .ifCond .ne 5, 3), (10, .iconst 0, 1), (11, .ireturn, 1), (12, .iconst 0, 1), (13, .istore_n 1, 1), (14, .iconst 0, 1), (15, .istore_n 2, 1)], [(16, .iload_n 2, 1), (17, .bipush 6, 2), (19, .if_icmp .ge 128, 3), (22, .aload_n 0, 1), (23, .getfield 26, 3), (26, .getfield 107, 3), (29, .iload_n 2, 1), (30, .iadd, 1), (31, .istore_n 3, 1)], [(32, .iload_n 3, 1), (33, .bipush 6, 2), (35, .if_icmp .lt 7, 3), (38, .iconst (-1), 1), (39, .iload_n 1, 1), (40, .isub, 1), (41, .ireturn, 1), (42, .iconst 0, 1), (43, .istore 4, 2), (45, .iload 4, 2), (47, .bipush 6, 2)], [(49, .if_icmp .ge 55, 3), (52, .aload_n 0, 1), (53, .getfield 12, 3), (56, .iload_n 1, 1), (57, .bipush 41, 2), (59, .invokevirtual 419, 3), (62, .istore 5, 2)], [(64, .iload 5, 2), (66, .ifCond .lt 13, 3), (69, .iload 4, 2), (71, .ifCond .ne 12, 3), (74, .iload 5, 2), (76, .ifCond .ne 7, 3), (79, .iconst (-1), 1)], [(80, .iload_n 1, 1), (81, .isub, 1), (82, .ireturn, 1), (83, .aload_n 0, 1), (84, .getfield 26, 3), (87, .iload_n 3, 1), (88, .iload 4, 2), (90, .iload 5, 2), (92, .invokevirtual 422, 3), (95, .iinc 1 1, 3)], [(98, .iinc 4 1, 3), (101, .goto (-56), 3), (104, .iload_n 1, 1), (105, .aload_n 0, 1), (106, .getfield 12, 3), (109, .getfield 99, 3)], [(112, .if_icmp .ne 7, 3), (115, .iload_n 2, 1), (116, .iconst 1, 1), (117, .iadd, 1), (118, .ireturn, 1), (119, .aload_n 0, 1), (120, .getfield 12, 3), (123, .iload_n 1, 1), (124, .bipush 41, 2), (126, .invokevirtual 257, 3)], [(129, .bipush 59, 2), (131, .if_icmp .eq 7, 3), (134, .iconst (-1), 1), (135, .iload_n 1, 1), (136, .isub, 1), (137, .ireturn, 1), (138, .iinc 1 1, 3), (141, .iinc 2 1, 3)], [(144, .goto (-128), 3), (147, .iconst (-1), 1), (148, .iload_n 1, 1), (149, .isub, 1), (150, .ireturn, 1)]]
def im_130 : List (List (Nat × Instr × Nat)) := [[(0, .aload_n 0, 1), (1, .getfield 12, 3), (4, .getfield 99, 3), (7, .ifCond .ne 5, 3), (10, .iconst 0, 1), (11, .ireturn, 1), (12, .iconst 0, 1), (13, .istore_n 1, 1), (14, .iconst 0, 1), (15, .istore_n 2, 1)], [(16, .iload_n 2, 1), (17, .bipush 8, 2), (19, .if_icmp .ge 79, 3), (22, .aload_n 0, 1), (23, .getfield 26, 3), (26, .getfield 120, 3), (29, .iload_n 2, 1), (30, .iadd, 1), (31, .istore_n 3, 1)], [(32, .iload_n 3, 1), (33, .bipush 8, 2), (35, .if_icmp .lt 7, 3), (38, .iconst (-1), 1), (39, .iload_n 1, 1), (40, .isub, 1), (41, .ireturn, 1), (42, .aload_n 0, 1), (43, .iload_n 3, 1), (44, .iload_n 1, 1), (45, .invokevirtual 425, 3)], [(48, .istore_n 1, 1), (49, .iload_n 1, 1), (50, .ifCond .ge 5, 3), (53, .iload_n 1, 1), (54, .ireturn, 1), (55, .iload_n 1, 1), (56, .aload_n 0, 1), (57, .getfield 12, 3), (60, .getfield 99, 3), (63, .if_icmp .ne 7, 3)], [(66, .iload_n 2, 1), (67, .iconst 1, 1), (68, .iadd, 1), (69, .ireturn, 1), (70, .aload_n 0, 1), (71, .getfield 12, 3), (74, .iload_n 1, 1), (75, .bipush 55, 2), (77, .invokevirtual 257, 3)], [(80, .bipush 59, 2), (82, .if_icmp .eq 7, 3), (85, .iconst (-1), 1), (86, .iload_n 1, 1), (87, .isub, 1), (88, .ireturn, 1), (89, .iinc 1 1, 3), (92, .iinc 2 1, 3), (95, .goto (-79), 3)], [(98, .iconst (-1), 1), (99, .iload_n 1, 1), (100, .isub, 1), (101, .ireturn, 1)]]
def im_131 : List (List (Nat × Instr × Nat)) := [[(0, .aload_n 0, 1), (1, .getfield 12, 3), (4, .iload_n 2, 1), (5, .bipush 55, 2), (7, .invokevirtual 419, 3), (10, .istore_n 3, 1), (11, .iload_n 3, 1), (12, .ifCond .lt 8, 3), (15, .iload_n 3, 1)], [(16, .iconst 5, 1), (17, .if_icmp .lt 7, 3), (20, .iconst (-1), 1), (21, .iload_n 2, 1), (22, .isub, 1), (23, .ireturn, 1), (24, .iload_n 2, 1), (25, .iconst 1, 1), (26, .iadd, 1), (27, .istore 4, 2), (29, .aload_n 0, 1), (30, .getfield 12, 3)], [(33, .iload 4, 2), (35, .bipush 55, 2), (37, .invokevirtual 419, 3), (40, .istore 5, 2), (42, .iload 5, 2), (44, .ifCond .ge 8, 3), (47, .iconst (-1), 1)], [(48, .iload 4, 2), (50, .isub, 1), (51, .ireturn, 1), (52, .aload_n 0, 1), (53, .getfield 12, 3), (56, .iload 4, 2), (58, .iconst 1, 1), (59, .iadd, 1), (60, .bipush 55, 2), (62, .invokevirtual 419, 3)], [(65, .istore 6, 2), (67, .iload 6, 2), (69, .ifCond .lt 16, 3), (72, .bipush 10, 2), (74, .iload 5, 2), (76, .imul, 1), (77, .iload 6, 2), (79, .iadd, 1)], [(80, .istore 5, 2), (82, .iinc 4 1, 3), (85, .iload 5, 2), (87, .ifCond .ne 8, 3), (90, .iconst (-1), 1), (91, .iload 4, 2), (93, .isub, 1), (94, .ireturn, 1), (95, .iinc 4 1, 3)], [(98, .aload_n 0, 1), (99, .getfield 12, 3), (102, .iload 4, 2), (104, .bipush 55, 2), (106, .invokevirtual 257, 3), (109, .bipush 44, 2), (111, .if_icmp .eq 8, 3)], [(114, .iconst (-1), 1), (115, .iload 4, 2), (117, .isub, 1), (118, .ireturn, 1), (119, .iinc 4 1, 3), (122, .aload_n 0, 1), (123, .getfield 12, 3), (126, .iload 4, 2)], [(128, .bipush 55, 2), (130, .invokevirtual 419, 3), (133, .istore 7, 2), (135, .iload 7, 2), (137, .ifCond .ge 8, 3), (140, .iconst (-1), 1), (141, .iload 4, 2), (143, .isub, 1)], [(144, .ireturn, 1), (145, .iinc 4 1, 3), (148, .aload_n 0, 1), (149, .getfield 12, 3), (152, .iload 4, 2), (154, .bipush 55, 2), (156, .invokevirtual 419, 3), (159, .istore 8, 2)], [(161, .aload_n 0, 1), (162, .getfield 26, 3), (165, .iload 8, 2), (167, .invokevirtual 126, 3), (170, .ifCond .ne 8, 3), (173, .iconst (-1), 1), (174, .iload 4, 2)], [(176, .isub, 1), (177, .ireturn, 1), (178, .aload_n 0, 1), (179, .getfield 26, 3), (182, .iload_n 1, 1), (183, .iload_n 3, 1), (184, .iload 5, 2), (186, .iload 7, 2), (188, .invokevirtual 428, 3), (191, .aload_n 0, 1)], [(192, .getfield 33, 3), (195, .getfield 184, 3), (198, .iload_n 1, 1), (199, .iload 8, 2), (201, .iastore, 1), (202, .aload_n 0, 1), (203, .getfield 33, 3), (206, .getfield 187, 3)], [(209, .iload_n 1, 1), (210, .iconst 1, 1), (211, .iload 8, 2), (213, .ishl, 1), (214, .iastore, 1), (215, .iload 4, 2), (217, .iconst 1, 1), (218, .iadd, 1), (219, .ireturn, 1)]]
def im_132 : List (List (Nat × Instr × Nat)) := [[(0, .aload_n 0, 1), (1, .getfield 33, 3), (4, .getfield 140, 3), (7, .iload_n 1, 1), (8, .bipush 50, 2), (10, .iastore, 1), (11, .iconst 0, 1), (12, .istore_n 2, 1), (13, .iload_n 2, 1), (14, .iload_n 1, 1), (15, .if_icmp .ge 39, 3)], [(18, .aload_n 0, 1), (19, .getfield 33, 3), (22, .getfield 163, 3), (25, .iload_n 1, 1), (26, .iload_n 2, 1), (27, .invokestatic 160, 3), (30, .bipush 10, 2)], [(32, .iastore, 1), (33, .aload_n 0, 1), (34, .getfield 33, 3), (37, .getfield 163, 3), (40, .iload_n 2, 1), (41, .iload_n 1, 1), (42, .invokestatic 160, 3), (45, .bipush 10, 2), (47, .iastore, 1)], [(48, .iinc 2 1, 3), (51, .goto (-38), 3), (54, .return_, 1)]]
def im_133 : List (List (Nat × Instr × Nat)) := [[(0, .aload_n 0, 1), (1, .getfield 43, 3), (4, .invokevirtual 398, 3), (7, .aload_n 0, 1), (8, .iconst 0, 1), (9, .putfield 395, 3), (12, .return_, 1)]]
def im_134 : List (List (Nat × Instr × Nat)) := [[(0, .iconst 0, 1), (1, .istore_n 1, 1), (2, .iconst 0, 1), (3, .istore_n 2, 1), (4, .iload_n 2, 1), (5, .bipush 60, 2), (7, .if_icmp .ge 95, 3), (10, .iload_n 1, 1), (11, .aload_n 0, 1), (12, .getfield 12, 3), (15, .getfield 99, 3)], [(18, .if_icmp .eq 84, 3), (21, .aload_n 0, 1), (22, .getfield 12, 3), (25, .iload_n 1, 1), (26, .bipush 60, 2), (28, .invokevirtual 257, 3), (31, .invokestatic 260, 3)], [(34, .istore_n 3, 1), (35, .iload_n 3, 1), (36, .ifCond .ne 5, 3), (39, .iload_n 1, 1), (40, .ireturn, 1), (41, .iconst 1, 1), (42, .istore 4, 2), (44, .iload 4, 2), (46, .iload_n 3, 1), (47, .if_icmp .ge 45, 3)], [(50, .aload_n 0, 1), (51, .getfield 12, 3), (54, .iload_n 1, 1), (55, .iload 4, 2), (57, .iadd, 1), (58, .bipush 60, 2), (60, .invokevirtual 419, 3), (63, .istore 5, 2)], [(65, .iload 5, 2), (67, .ifCond .lt 14, 3), (70, .iload 4, 2), (72, .iconst 3, 1), (73, .if_icmp .ne 13, 3), (76, .iload 5, 2), (78, .ifCond .ne 8, 3)], [(81, .iload_n 1, 1), (82, .iload 4, 2), (84, .iadd, 1), (85, .ireturn, 1), (86, .iinc 4 1, 3), (89, .goto (-45), 3), (92, .iload_n 1, 1), (93, .iload_n 3, 1), (94, .iadd, 1), (95, .istore_n 1, 1)], [(96, .iinc 2 1, 3), (99, .goto (-95), 3), (102, .iconst (-1), 1), (103, .ireturn, 1)]]
def im_135 : List (List (Nat × Instr × Nat)) := [[(0, .iload_n 0, 1), (1, .tableswitch 77 102 115 #[73, 77, 77, 77, 77, 77, 77, 71, 77, 77, 75, 75, 77, 73], 71)], [], [], [], [(72, .iconst 2, 1), (73, .ireturn, 1), (74, .iconst 3, 1), (75, .ireturn, 1), (76, .iconst 4, 1), (77, .ireturn, 1), (78, .iconst 0, 1), (79, .ireturn, 1)]]
def im_136 : List (List (Nat × Instr × Nat)) := [[(0, .aload_n 0, 1), (1, .getfield 26, 3), (4, .iload_n 1, 1), (5, .invokevirtual 172, 3), (8, .ifCond .eq 14, 3), (11, .aload_n 0, 1), (12, .getfield 26, 3), (15, .iload_n 2, 1)], [(16, .invokevirtual 126, 3), (19, .ifCond .ne 5, 3), (22, .iconst (-1), 1), (23, .ireturn, 1), (24, .aload_n 0, 1), (25, .getfield 33, 3), (28, .getfield 184, 3), (31, .iload_n 1, 1)], [(32, .iaload, 1), (33, .iload_n 2, 1), (34, .if_icmp .ne 8, 3), (37, .bipush (-2), 2), (39, .goto 4, 3), (42, .iconst 0, 1), (43, .ireturn, 1)]]
def im_137 : List (List (Nat × Instr × Nat)) := [[(0, .aload_n 0, 1), (1, .getfield 26, 3), (4, .iload_n 1, 1), (5, .iload_n 2, 1), (6, .invokevirtual 156, 3), (9, .ifCond .eq 19, 3), (12, .iload_n 3, 1), (13, .bipush (-9), 2), (15, .if_icmp .lt 13, 3)], [(18, .iload_n 3, 1), (19, .bipush 9, 2), (21, .if_icmp .gt 7, 3), (24, .iload_n 3, 1), (25, .ifCond .ne 7, 3), (28, .iconst 1, 1), (29, .goto 4, 3)], [(32, .iconst 0, 1), (33, .ireturn, 1)]]
def im_138 : List (List (Nat × Instr × Nat)) := [[(0, .iload_n 1, 1), (1, .iload_n 2, 1), (2, .invokestatic 160, 3), (5, .istore 4, 2), (7, .aload_n 0, 1), (8, .getfield 33, 3), (11, .getfield 163, 3), (14, .iload 4, 2)], [(16, .aload_n 0, 1), (17, .getfield 33, 3), (20, .getfield 163, 3), (23, .iload 4, 2), (25, .iaload, 1), (26, .iload_n 3, 1), (27, .iadd, 1), (28, .bipush 20, 2), (30, .invokestatic 196, 3)], [(33, .iastore, 1), (34, .return_, 1)]]
def im_139 : List (List (Nat × Instr × Nat)) := [[(0, .aload_n 0, 1), (1, .getfield 26, 3), (4, .iload_n 1, 1), (5, .iload_n 2, 1), (6, .invokevirtual 156, 3), (9, .ifCond .ne 5, 3), (12, .iconst (-1), 1), (13, .ireturn, 1), (14, .aload_n 0, 1), (15, .getfield 33, 3)], [(18, .getfield 166, 3), (21, .iload_n 1, 1), (22, .iload_n 2, 1), (23, .invokestatic 160, 3), (26, .iaload, 1), (27, .ifCond .ne 8, 3), (30, .bipush (-2), 2)], [(32, .goto 4, 3), (35, .iconst 0, 1), (36, .ireturn, 1)]]
def im_140 : List (List (Nat × Instr × Nat)) := [[(0, .iconst 0, 1), (1, .istore_n 2, 1), (2, .iload_n 2, 1), (3, .iload_n 1, 1), (4, .if_icmp .ge 20, 3), (7, .aload_n 0, 1), (8, .getfield 26, 3), (11, .aload_n 0, 1), (12, .getfield 33, 3), (15, .invokevirtual 386, 3)], [(18, .iinc 2 1, 3), (21, .goto (-19), 3), (24, .return_, 1)]]
def im_141 : List (List (Nat × Instr × Nat)) := [[(0, .aload_n 0, 1), (1, .getfield 12, 3), (4, .iload_n 1, 1), (5, .iconst 1, 1), (6, .iadd, 1), (7, .bipush 60, 2), (9, .invokevirtual 419, 3), (12, .istore_n 2, 1), (13, .aload_n 0, 1), (14, .getfield 12, 3)], [(17, .iload_n 1, 1), (18, .iconst 2, 1), (19, .iadd, 1), (20, .bipush 60, 2), (22, .invokevirtual 419, 3), (25, .istore_n 3, 1), (26, .aload_n 0, 1), (27, .getfield 12, 3), (30, .iload_n 1, 1), (31, .iconst 3, 1)], [(32, .iadd, 1), (33, .bipush 60, 2), (35, .invokevirtual 419, 3), (38, .istore 4, 2), (40, .aload_n 0, 1), (41, .getfield 12, 3), (44, .iload_n 1, 1), (45, .bipush 60, 2), (47, .invokevirtual 257, 3)], [(50, .tableswitch 110 102 115 #[84, 110, 110, 110, 110, 110, 110, 77, 110, 110, 91, 100, 110, 70], 70)], [], [], [], [(120, .aload_n 0, 1), (121, .iload_n 2, 1), (122, .iload_n 3, 1), (123, .invokevirtual 432, 3), (126, .ireturn, 1), (127, .aload_n 0, 1)], [(128, .iload_n 2, 1), (129, .invokevirtual 228, 3), (132, .iconst 1, 1), (133, .ireturn, 1), (134, .aload_n 0, 1), (135, .iload_n 2, 1), (136, .iload_n 3, 1), (137, .invokevirtual 435, 3), (140, .ireturn, 1), (141, .aload_n 0, 1), (142, .iload_n 2, 1), (143, .iload_n 3, 1)], [(144, .iload 4, 2), (146, .invokevirtual 438, 3), (149, .ireturn, 1), (150, .aload_n 0, 1), (151, .iload_n 2, 1), (152, .iload_n 3, 1), (153, .iload 4, 2), (155, .ineg, 1), (156, .invokevirtual 438, 3), (159, .ireturn, 1)], [(160, .iconst 0, 1), (161, .ireturn, 1)]]
def im_142 : List (List (Nat × Instr × Nat)) := [[(0, .aload_n 0, 1), (1, .iload_n 1, 1), (2, .iload_n 2, 1), (3, .invokevirtual 203, 3), (6, .ifCond .ge 5, 3), (9, .iconst 0, 1), (10, .ireturn, 1), (11, .aload_n 0, 1), (12, .getfield 26, 3), (15, .aload_n 0, 1)], [(16, .getfield 33, 3), (19, .iload_n 1, 1), (20, .iload_n 2, 1), (21, .aload_n 0, 1), (22, .getfield 26, 3), (25, .aload_n 0, 1), (26, .getfield 56, 3), (29, .aload_n 0, 1), (30, .getfield 33, 3)], [(33, .iload_n 1, 1), (34, .iload_n 2, 1), (35, .invokevirtual 210, 3), (38, .invokevirtual 217, 3), (41, .iconst 1, 1), (42, .ireturn, 1)]]
def im_143 : List (List (Nat × Instr × Nat)) := [[(0, .aload_n 0, 1), (1, .iload_n 1, 1), (2, .iload_n 2, 1), (3, .invokevirtual 245, 3), (6, .ifCond .ge 5, 3), (9, .iconst 0, 1), (10, .ireturn, 1), (11, .aload_n 0, 1), (12, .getfield 33, 3), (15, .getfield 166, 3)], [(18, .iload_n 1, 1), (19, .iload_n 2, 1), (20, .invokestatic 160, 3), (23, .iconst 0, 1), (24, .iastore, 1), (25, .iconst 1, 1), (26, .ireturn, 1)]]
def im_144 : List (List (Nat × Instr × Nat)) := [[(0, .aload_n 0, 1), (1, .iload_n 1, 1), (2, .iload_n 2, 1), (3, .iload_n 3, 1), (4, .invokevirtual 237, 3), (7, .ifCond .eq 5, 3), (10, .iconst 0, 1), (11, .ireturn, 1), (12, .aload_n 0, 1), (13, .iload_n 1, 1), (14, .iload_n 2, 1), (15, .iload_n 3, 1)], [(16, .invokevirtual 241, 3), (19, .iconst 1, 1), (20, .ireturn, 1)]]
def im_145 : List (List (Nat × Instr × Nat)) := [[(0, .aload_n 0, 1), (1, .getfield 37, 3), (4, .getfield 184, 3), (7, .iload_n 1, 1), (8, .iaload, 1), (9, .iload_n 2, 1), (10, .if_icmp .ne 5, 3), (13, .iconst 0, 1), (14, .ireturn, 1), (15, .aload_n 0, 1)], [(16, .getfield 26, 3), (19, .aload_n 0, 1), (20, .getfield 37, 3), (23, .iload_n 1, 1), (24, .iload_n 2, 1), (25, .aload_n 0, 1), (26, .getfield 26, 3), (29, .aload_n 0, 1), (30, .getfield 56, 3)], [(33, .aload_n 0, 1), (34, .getfield 37, 3), (37, .iload_n 1, 1), (38, .iload_n 2, 1), (39, .invokevirtual 210, 3), (42, .invokevirtual 217, 3), (45, .iconst 1, 1), (46, .ireturn, 1)]]
def im_146 : List (List (Nat × Instr × Nat)) := [[(0, .aload_n 0, 1), (1, .getfield 33, 3), (4, .getfield 184, 3), (7, .iload_n 1, 1), (8, .iaload, 1), (9, .istore_n 3, 1), (10, .aload_n 0, 1), (11, .getfield 33, 3), (14, .getfield 184, 3)], [(17, .iload_n 2, 1), (18, .iaload, 1), (19, .istore 4, 2), (21, .iload_n 3, 1), (22, .iload 4, 2), (24, .if_icmp .ne 5, 3), (27, .iconst 0, 1), (28, .ireturn, 1), (29, .aload_n 0, 1), (30, .getfield 26, 3)], [(33, .aload_n 0, 1), (34, .getfield 56, 3), (37, .aload_n 0, 1), (38, .getfield 33, 3), (41, .iload_n 2, 1), (42, .iload_n 3, 1), (43, .invokevirtual 210, 3), (46, .aload_n 0, 1), (47, .getfield 26, 3)], [(50, .aload_n 0, 1), (51, .getfield 56, 3), (54, .aload_n 0, 1), (55, .getfield 33, 3), (58, .iload_n 1, 1), (59, .iload_n 3, 1), (60, .invokevirtual 210, 3), (63, .isub, 1)], [(64, .istore 5, 2), (66, .aload_n 0, 1), (67, .getfield 26, 3), (70, .aload_n 0, 1), (71, .getfield 56, 3), (74, .aload_n 0, 1), (75, .getfield 33, 3), (78, .iload_n 1, 1), (79, .iload 4, 2)], [(81, .invokevirtual 210, 3), (84, .aload_n 0, 1), (85, .getfield 26, 3), (88, .aload_n 0, 1), (89, .getfield 56, 3), (92, .aload_n 0, 1), (93, .getfield 33, 3)], [(96, .iload_n 2, 1), (97, .iload 4, 2), (99, .invokevirtual 210, 3), (102, .isub, 1), (103, .istore 6, 2), (105, .iload 5, 2), (107, .ifCond .le 16, 3), (110, .iload 6, 2)], [(112, .ifCond .le 11, 3), (115, .iload 5, 2), (117, .iload 6, 2), (119, .iadd, 1), (120, .goto 4, 3), (123, .iconst 0, 1), (124, .ireturn, 1)]]
def im_147 : List (List (Nat × Instr × Nat)) := [[(0, .iconst (-1), 1), (1, .istore_n 2, 1), (2, .iconst (-1), 1), (3, .istore_n 3, 1), (4, .iconst 0, 1), (5, .istore 4, 2), (7, .iload 4, 2), (9, .aload_n 0, 1), (10, .getfield 26, 3), (13, .getfield 107, 3)], [(16, .if_icmp .ge 45, 3), (19, .aload_n 0, 1), (20, .getfield 26, 3), (23, .aload_n 0, 1), (24, .getfield 33, 3), (27, .iload 4, 2), (29, .invokevirtual 354, 3)], [(32, .istore 5, 2), (34, .iload_n 1, 1), (35, .iload 4, 2), (37, .ishr, 1), (38, .iconst 1, 1), (39, .iand, 1), (40, .ifCond .ne 15, 3), (43, .iload 5, 2), (45, .iload_n 3, 1), (46, .if_icmp .le 9, 3)], [(49, .iload 5, 2), (51, .istore_n 3, 1), (52, .iload 4, 2), (54, .istore_n 2, 1), (55, .iinc 4 1, 3), (58, .goto (-51), 3), (61, .iload_n 2, 1), (62, .ireturn, 1)]]
def im_148 : List (List (Nat × Instr × Nat)) := [[(0, .iconst 0, 1), (1, .istore_n 2, 1), (2, .iload_n 2, 1), (3, .aload_n 0, 1), (4, .getfield 26, 3), (7, .getfield 107, 3), (10, .if_icmp .ge 46, 3), (13, .iload_n 1, 1), (14, .iconst 1, 1), (15, .iload_n 2, 1)], [(16, .ishl, 1), (17, .iconst (-1), 1), (18, .ixor, 1), (19, .iand, 1), (20, .istore_n 3, 1), (21, .iload_n 1, 1), (22, .iload_n 2, 1), (23, .ishr, 1), (24, .iconst 1, 1), (25, .iand, 1), (26, .ifCond .eq 24, 3), (29, .iload_n 3, 1), (30, .aload_n 0, 1), (31, .getfield 26, 3)], [(34, .aload_n 0, 1), (35, .getfield 33, 3), (38, .iload_n 2, 1), (39, .invokevirtual 147, 3), (42, .iconst (-1), 1), (43, .ixor, 1), (44, .iand, 1), (45, .ifCond .eq 5, 3)], [(48, .iconst 0, 1), (49, .ireturn, 1), (50, .iinc 2 1, 3), (53, .goto (-51), 3), (56, .iconst 1, 1), (57, .ireturn, 1)]]
def im_149 : List (List (Nat × Instr × Nat)) := [[(0, .iconst 0, 1), (1, .istore_n 2, 1), (2, .iconst 0, 1), (3, .istore_n 3, 1), (4, .iload_n 3, 1), (5, .aload_n 0, 1), (6, .getfield 26, 3), (9, .getfield 120, 3), (12, .if_icmp .ge 34, 3), (15, .iload_n 2, 1)], [(16, .aload_n 0, 1), (17, .getfield 26, 3), (20, .aload_n 1, 1), (21, .aload_n 0, 1), (22, .getfield 33, 3), (25, .iload_n 3, 1), (26, .aload_n 0, 1), (27, .getfield 33, 3), (30, .getfield 184, 3)], [(33, .iload_n 3, 1), (34, .iaload, 1), (35, .invokevirtual 210, 3), (38, .iadd, 1), (39, .istore_n 2, 1), (40, .iinc 3 1, 3), (43, .goto (-39), 3), (46, .iload_n 2, 1), (47, .ireturn, 1)]]
def im_150 : List (List (Nat × Instr × Nat)) := [[(0, .lload_n 1, 1), (1, .lload_n 3, 1), (2, .invokestatic 441, 3), (5, .lstore 5, 2), (7, .lload 5, 2), (9, .lconst 0, 1), (10, .lcmp, 1), (11, .ifCond .le 18, 3), (14, .aload_n 0, 1), (15, .getfield 19, 3)], [(18, .lload_n 1, 1), (19, .lload 5, 2), (21, .ldiv, 1), (22, .lload_n 3, 1), (23, .lload 5, 2), (25, .ldiv, 1), (26, .invokevirtual 221, 3), (29, .return_, 1)]]
def im_151 : List (List (Nat × Instr × Nat)) := [[(0, .lload_n 0, 1), (1, .lstore 4, 2), (3, .lload_n 2, 1), (4, .lstore 6, 2), (6, .iconst 0, 1), (7, .istore 8, 2), (9, .iload 8, 2), (11, .bipush 100, 2), (13, .if_icmp .ge 31, 3)], [(16, .lload 6, 2), (18, .lconst 0, 1), (19, .lcmp, 1), (20, .ifCond .eq 24, 3), (23, .lload 4, 2), (25, .lload 6, 2), (27, .lrem, 1), (28, .lstore 9, 2), (30, .lload 6, 2)], [(32, .lstore 4, 2), (34, .lload 9, 2), (36, .lstore 6, 2), (38, .iinc 8 1, 3), (41, .goto (-32), 3), (44, .lload 4, 2), (46, .lreturn, 1)]]
def im_152 : List (List (Nat × Instr × Nat)) := [[(0, .lconst 1, 1), (1, .lstore_n 2, 1), (2, .iconst 0, 1), (3, .istore 4, 2), (5, .iload 4, 2), (7, .iload_n 1, 1), (8, .if_icmp .ge 14, 3), (11, .lload_n 2, 1), (12, .iload_n 0, 1), (13, .i2l, 1), (14, .lmul, 1), (15, .lstore_n 2, 1)], [(16, .iinc 4 1, 3), (19, .goto (-14), 3), (22, .lload_n 2, 1), (23, .lreturn, 1)]]
def im_153 : List (List (Nat × Instr × Nat)) := [[(0, .iconst 0, 1), (1, .istore_n 3, 1), (2, .iload_n 3, 1), (3, .bipush 9, 2), (5, .if_icmp .gt 26, 3), (8, .iload_n 3, 1), (9, .iload_n 1, 1), (10, .iload_n 2, 1), (11, .invokestatic 445, 3), (14, .iload_n 0, 1), (15, .iload_n 1, 1)], [(16, .iload_n 2, 1), (17, .invokestatic 445, 3), (20, .if_icmp .le 5, 3), (23, .iconst 0, 1), (24, .ireturn, 1), (25, .iinc 3 1, 3), (28, .goto (-26), 3), (31, .iconst 1, 1)], [(32, .ireturn, 1)]]
def im_154 : List (List (Nat × Instr × Nat)) := [[(0, .iload_n 0, 1), (1, .iload_n 1, 1), (2, .if_icmp .le 7, 3), (5, .iload_n 2, 1), (6, .goto 15, 3), (9, .iload_n 0, 1), (10, .iload_n 1, 1), (11, .if_icmp .ne 9, 3), (14, .iload_n 2, 1), (15, .iconst 2, 1)], [(16, .idiv, 1), (17, .goto 4, 3), (20, .iconst 0, 1), (21, .istore_n 3, 1), (22, .iload_n 0, 1), (23, .iconst 2, 1), (24, .iload_n 1, 1), (25, .imul, 1), (26, .if_icmp .le 7, 3), (29, .iconst 3, 1), (30, .goto 4, 3)], [(33, .iconst 0, 1), (34, .istore 4, 2), (36, .iload_n 3, 1), (37, .iload_n 0, 1), (38, .isub, 1), (39, .iload 4, 2), (41, .isub, 1), (42, .ireturn, 1)]]
def im_155 : List (List (Nat × Instr × Nat)) := [[(0, .iload_n 0, 1), (1, .ldc_w 449, 3), (4, .imul, 1), (5, .sipush 12345, 3), (8, .iadd, 1), (9, .ireturn, 1)]]
def im_156 : List (List (Nat × Instr × Nat)) := [[(0, .iload_n 1, 1), (1, .ifCond .le 12, 3), (4, .iload_n 0, 1), (5, .bipush 16, 2), (7, .iushr, 1), (8, .iload_n 1, 1), (9, .irem, 1), (10, .goto 4, 3), (13, .iconst 0, 1), (14, .ireturn, 1)]]
def im_157 : List (List (Nat × Instr × Nat)) := [[(0, .iload_n 0, 1), (1, .lookupswitch 33 #[(0, 27), (1, 30)], 27)], [(28, .iload_n 1, 1), (29, .i2b, 1), (30, .ireturn, 1), (31, .iload_n 1, 1)], [(32, .i2s, 1), (33, .ireturn, 1), (34, .iload_n 1, 1), (35, .ireturn, 1)]]
def im_158 : List (List (Nat × Instr × Nat)) := [[(0, .iconst 0, 1), (1, .istore_n 1, 1), (2, .iload_n 1, 1), (3, .bipush 8, 2), (5, .if_icmp .ge 19, 3), (8, .iload_n 0, 1), (9, .iload_n 1, 1), (10, .ishr, 1), (11, .iconst 1, 1), (12, .iand, 1), (13, .ifCond .eq 5, 3)], [(16, .iload_n 1, 1), (17, .ireturn, 1), (18, .iinc 1 1, 3), (21, .goto (-19), 3), (24, .iconst (-1), 1), (25, .ireturn, 1)]]
def im_159 : List (List (Nat × Instr × Nat)) := [[(0, .iconst 0, 1), (1, .iload_n 1, 1), (2, .iload_n 0, 1), (3, .invokestatic 273, 3), (6, .invokestatic 370, 3), (9, .ireturn, 1)]]
def im_160 : List (List (Nat × Instr × Nat)) := [[(0, .iload_n 0, 1), (1, .bipush 6, 2), (3, .imul, 1), (4, .iload_n 1, 1), (5, .iadd, 1), (6, .ireturn, 1)]]
def im_161 : List (List (Nat × Instr × Nat)) := [[(0, .aload_n 0, 1), (1, .invokespecial 3, 3), (4, .aload_n 0, 1), (5, .sipush 128, 3), (8, .newarray .long, 2), (10, .putfield 9, 3), (13, .aload_n 0, 1), (14, .bipush 6, 2)], [(16, .newarray .int, 2), (18, .putfield 13, 3), (21, .aload_n 0, 1), (22, .bipush 30, 2), (24, .newarray .int, 2), (26, .putfield 17, 3), (29, .aload_n 0, 1), (30, .bipush 8, 2)], [(32, .newarray .int, 2), (34, .putfield 20, 3), (37, .aload_n 0, 1), (38, .bipush 8, 2), (40, .newarray .int, 2), (42, .putfield 23, 3), (45, .aload_n 0, 1), (46, .bipush 8, 2)], [(48, .newarray .int, 2), (50, .putfield 26, 3), (53, .aload_n 0, 1), (54, .bipush 36, 2), (56, .newarray .int, 2), (58, .putfield 29, 3), (61, .aload_n 0, 1), (62, .bipush 96, 2)], [(64, .newarray .int, 2), (66, .putfield 32, 3), (69, .aload_n 0, 1), (70, .bipush 96, 2), (72, .newarray .int, 2), (74, .putfield 35, 3), (77, .aload_n 0, 1), (78, .bipush 80, 2)], [(80, .newarray .int, 2), (82, .putfield 38, 3), (85, .aload_n 0, 1), (86, .bipush 36, 2), (88, .newarray .int, 2), (90, .putfield 41, 3), (93, .aload_n 0, 1), (94, .bipush 80, 2)], [(96, .newarray .int, 2), (98, .putfield 44, 3), (101, .aload_n 0, 1), (102, .bipush 80, 2), (104, .newarray .int, 2), (106, .putfield 47, 3), (109, .aload_n 0, 1), (110, .bipush 80, 2)], [(112, .newarray .int, 2), (114, .putfield 50, 3), (117, .aload_n 0, 1), (118, .bipush 7, 2), (120, .newarray .int, 2), (122, .putfield 53, 3), (125, .aload_n 0, 1), (126, .sipush 1536, 3)], [(129, .newarray .int, 2), (131, .putfield 56, 3), (134, .aload_n 0, 1), (135, .bipush 60, 2), (137, .newarray .int, 2), (139, .putfield 59, 3), (142, .aload_n 0, 1), (143, .bipush 60, 2)], [(145, .newarray .int, 2), (147, .putfield 62, 3), (150, .aload_n 0, 1), (151, .bipush 60, 2), (153, .newarray .int, 2), (155, .putfield 65, 3), (158, .aload_n 0, 1), (159, .bipush 60, 2)], [(161, .newarray .int, 2), (163, .putfield 68, 3), (166, .aload_n 0, 1), (167, .iconst 4, 1), (168, .newarray .int, 2), (170, .putfield 71, 3), (173, .aload_n 0, 1), (174, .iconst 4, 1), (175, .newarray .int, 2)], [(177, .putfield 74, 3), (180, .aload_n 0, 1), (181, .bipush 6, 2), (183, .newarray .int, 2), (185, .putfield 77, 3), (188, .aload_n 0, 1), (189, .sipush 600, 3)], [(192, .newarray .int, 2), (194, .putfield 80, 3), (197, .aload_n 0, 1), (198, .bipush 64, 2), (200, .newarray .int, 2), (202, .putfield 83, 3), (205, .aload_n 0, 1), (206, .bipush 64, 2)], [(208, .newarray .int, 2), (210, .putfield 86, 3), (213, .aload_n 0, 1), (214, .bipush 6, 2), (216, .newarray .int, 2), (218, .putfield 89, 3), (221, .aload_n 0, 1), (222, .bipush 6, 2)], [(224, .newarray .int, 2), (226, .putfield 92, 3), (229, .aload_n 0, 1), (230, .bipush 12, 2), (232, .newarray .int, 2), (234, .putfield 95, 3), (237, .aload_n 0, 1), (238, .bipush 12, 2)], [(240, .newarray .int, 2), (242, .putfield 98, 3), (245, .aload_n 0, 1), (246, .bipush 80, 2), (248, .newarray .int, 2), (250, .putfield 101, 3), (253, .aload_n 0, 1), (254, .iconst 3, 1), (255, .newarray .boolean, 2)], [(257, .putfield 104, 3), (260, .aload_n 0, 1), (261, .iconst 3, 1), (262, .newarray .int, 2), (264, .putfield 108, 3), (267, .aload_n 0, 1), (268, .sipush 288, 3), (271, .newarray .int, 2)], [(273, .putfield 111, 3), (276, .return_, 1)]]
def im_162 : List (List (Nat × Instr × Nat)) := [[(0, .aload_n 0, 1), (1, .iconst 1, 1), (2, .putfield 114, 3), (5, .iconst 0, 1), (6, .ireturn, 1)]]
def im_163 : List (List (Nat × Instr × Nat)) := [[(0, .lload_n 0, 1), (1, .lload_n 2, 1), (2, .lcmp, 1), (3, .ifCond .lt 14, 3), (6, .lload_n 0, 1), (7, .lload 4, 2), (9, .lcmp, 1), (10, .ifCond .gt 7, 3), (13, .iconst 1, 1), (14, .goto 4, 3)], [(17, .iconst 0, 1), (18, .ireturn, 1)]]
def im_164 : List (List (Nat × Instr × Nat)) := [[(0, .iload_n 0, 1), (1, .iload_n 1, 1), (2, .ishr, 1), (3, .iconst 1, 1), (4, .iand, 1), (5, .iconst 1, 1), (6, .if_icmp .ne 7, 3), (9, .iconst 1, 1), (10, .goto 4, 3), (13, .iconst 0, 1), (14, .ireturn, 1)]]
def im_165 : List (List (Nat × Instr × Nat)) := [[(0, .iload_n 0, 1), (1, .ifCond .eq 7, 3), (4, .iconst 1, 1), (5, .goto 4, 3), (8, .iconst 0, 1), (9, .ireturn, 1)]]
def im_166 : List (List (Nat × Instr × Nat)) := [[(0, .lload_n 2, 1), (1, .lconst 0, 1), (2, .lcmp, 1), (3, .ifCond .ne 7, 3), (6, .lload_n 0, 1), (7, .goto 10, 3), (10, .lload_n 2, 1), (11, .lload_n 0, 1), (12, .lload_n 2, 1), (13, .lrem, 1), (14, .invokestatic 118, 3)], [(17, .lreturn, 1)]]
def im_167 : List (List (Nat × Instr × Nat)) := [[(0, .aload_n 0, 1), (1, .getfield 9, 3), (4, .aload_n 0, 1), (5, .getfield 122, 3), (8, .lload_n 1, 1), (9, .lastore, 1), (10, .aload_n 0, 1), (11, .dup, 1), (12, .getfield 122, 3), (15, .iconst 1, 1)], [(16, .iadd, 1), (17, .putfield 122, 3), (20, .return_, 1)]]
def im_168 : List (List (Nat × Instr × Nat)) := [[(0, .iload_n 1, 1), (1, .i2l, 1), (2, .lconst 0, 1), (3, .aload_n 0, 1), (4, .getfield 125, 3), (7, .iconst 1, 1), (8, .isub, 1), (9, .i2l, 1), (10, .invokestatic 128, 3), (13, .ireturn, 1)]]
def im_169 : List (List (Nat × Instr × Nat)) := [[(0, .iload_n 1, 1), (1, .i2l, 1), (2, .lconst 0, 1), (3, .aload_n 0, 1), (4, .getfield 132, 3), (7, .iconst 1, 1), (8, .isub, 1), (9, .i2l, 1), (10, .invokestatic 128, 3), (13, .ireturn, 1)]]
def im_170 : List (List (Nat × Instr × Nat)) := [[(0, .aload_n 0, 1), (1, .iload_n 1, 1), (2, .invokevirtual 135, 3), (5, .ifCond .eq 20, 3), (8, .aload_n 0, 1), (9, .iload_n 2, 1), (10, .invokevirtual 135, 3), (13, .ifCond .eq 12, 3)], [(16, .iload_n 1, 1), (17, .iload_n 2, 1), (18, .if_icmp .eq 7, 3), (21, .iconst 1, 1), (22, .goto 4, 3), (25, .iconst 0, 1), (26, .ireturn, 1)]]
def im_171 : List (List (Nat × Instr × Nat)) := [[(0, .aload_n 0, 1), (1, .bipush 6, 2), (3, .bipush 6, 2), (5, .iload_n 1, 1), (6, .imul, 1), (7, .iadd, 1), (8, .iload_n 2, 1), (9, .iadd, 1), (10, .iaload, 1), (11, .ireturn, 1)]]
def im_172 : List (List (Nat × Instr × Nat)) := [[(0, .aload_n 0, 1), (1, .bipush 42, 2), (3, .bipush 6, 2), (5, .iload_n 1, 1), (6, .imul, 1), (7, .iadd, 1), (8, .iload_n 2, 1), (9, .iadd, 1), (10, .iaload, 1), (11, .ireturn, 1)]]
def im_173 : List (List (Nat × Instr × Nat)) := [[(0, .aload_n 0, 1), (1, .bipush 94, 2), (3, .iaload, 1), (4, .iload_n 1, 1), (5, .invokestatic 139, 3), (8, .ireturn, 1)]]
def im_174 : List (List (Nat × Instr × Nat)) := [[(0, .iconst 0, 1), (1, .istore_n 3, 1), (2, .iconst 0, 1), (3, .istore 4, 2), (5, .iload 4, 2), (7, .aload_n 0, 1), (8, .getfield 132, 3), (11, .if_icmp .ge 31, 3), (14, .iload_n 3, 1), (15, .aload_n 1, 1)], [(16, .bipush 78, 2), (18, .iload 4, 2), (20, .iadd, 1), (21, .iaload, 1), (22, .iload_n 2, 1), (23, .if_icmp .ne 10, 3), (26, .iconst 1, 1), (27, .iload 4, 2), (29, .ishl, 1), (30, .goto 4, 3)], [(33, .iconst 0, 1), (34, .ior, 1), (35, .istore_n 3, 1), (36, .iinc 4 1, 3), (39, .goto (-34), 3), (42, .iload_n 3, 1), (43, .ireturn, 1)]]
def im_175 : List (List (Nat × Instr × Nat)) := [[(0, .iload_n 1, 1), (1, .iload_n 2, 1), (2, .if_icmp .eq 29, 3), (5, .aload_n 0, 1), (6, .iload_n 1, 1), (7, .iload_n 2, 1), (8, .invokestatic 143, 3), (11, .bipush 15, 2), (13, .if_icmp .lt 18, 3)], [(16, .aload_n 0, 1), (17, .iload_n 2, 1), (18, .iload_n 1, 1), (19, .invokestatic 143, 3), (22, .bipush 15, 2), (24, .if_icmp .lt 7, 3), (27, .iconst 1, 1), (28, .goto 4, 3), (31, .iconst 0, 1)], [(32, .ireturn, 1)]]
def im_176 : List (List (Nat × Instr × Nat)) := [[(0, .iload_n 1, 1), (1, .iload_n 2, 1), (2, .if_icmp .eq 25, 3), (5, .aload_n 0, 1), (6, .iload_n 1, 1), (7, .iload_n 2, 1), (8, .invokestatic 143, 3), (11, .ifCond .eq 12, 3), (14, .aload_n 0, 1), (15, .iload_n 2, 1)], [(16, .iload_n 1, 1), (17, .invokestatic 143, 3), (20, .ifCond .ne 7, 3), (23, .iconst 1, 1), (24, .goto 4, 3), (27, .iconst 0, 1), (28, .ireturn, 1)]]
def im_177 : List (List (Nat × Instr × Nat)) := [[(0, .iconst 0, 1), (1, .istore_n 2, 1), (2, .iconst 0, 1), (3, .istore_n 3, 1), (4, .iload_n 3, 1), (5, .aload_n 0, 1), (6, .getfield 125, 3), (9, .if_icmp .ge 15, 3), (12, .iload_n 2, 1), (13, .aload_n 1, 1), (14, .iload_n 3, 1), (15, .iaload, 1)], [(16, .iadd, 1), (17, .istore_n 2, 1), (18, .iinc 3 1, 3), (21, .goto (-17), 3), (24, .iload_n 2, 1), (25, .ireturn, 1)]]
def im_178 : List (List (Nat × Instr × Nat)) := [[(0, .aload_n 0, 1), (1, .iconst 0, 1), (2, .putfield 114, 3), (5, .aload_n 0, 1), (6, .getfield 147, 3), (9, .bipush 76, 2), (11, .if_icmp .le 5, 3), (14, .iconst (-1), 1), (15, .ireturn, 1)], [(16, .iconst 0, 1), (17, .istore_n 2, 1), (18, .iload_n 2, 1), (19, .iconst 4, 1), (20, .if_icmp .ge 33, 3), (23, .aload_n 0, 1), (24, .getfield 38, 3), (27, .aload_n 0, 1), (28, .getfield 147, 3), (31, .iload_n 2, 1)], [(32, .iadd, 1), (33, .iload_n 1, 1), (34, .bipush 24, 2), (36, .bipush 8, 2), (38, .iload_n 2, 1), (39, .imul, 1), (40, .isub, 1), (41, .ishr, 1), (42, .sipush 255, 3), (45, .iand, 1), (46, .iastore, 1), (47, .iinc 2 1, 3)], [(50, .goto (-32), 3), (53, .aload_n 0, 1), (54, .dup, 1), (55, .getfield 147, 3), (58, .iconst 4, 1), (59, .iadd, 1), (60, .putfield 147, 3), (63, .aload_n 0, 1)], [(64, .getfield 147, 3), (67, .ireturn, 1)]]
def im_179 : List (List (Nat × Instr × Nat)) := [[(0, .aload_n 0, 1), (1, .iconst 0, 1), (2, .putfield 114, 3), (5, .iload_n 1, 1), (6, .i2l, 1), (7, .lconst 0, 1), (8, .aload_n 0, 1), (9, .getfield 147, 3), (12, .i2l, 1), (13, .invokestatic 128, 3)], [(16, .ifCond .ne 5, 3), (19, .iconst 0, 1), (20, .ireturn, 1), (21, .aload_n 0, 1), (22, .iload_n 1, 1), (23, .putfield 147, 3), (26, .iconst 1, 1), (27, .ireturn, 1)]]
def im_180 : List (List (Nat × Instr × Nat)) := [[(0, .aload_n 0, 1), (1, .getfield 147, 3), (4, .istore_n 2, 1), (5, .aload_n 0, 1), (6, .iconst 0, 1), (7, .putfield 147, 3), (10, .aload_n 0, 1), (11, .iconst 0, 1), (12, .putfield 150, 3), (15, .aload_n 0, 1)], [(16, .iconst 0, 1), (17, .putfield 153, 3), (20, .aload_n 0, 1), (21, .iload_n 2, 1), (22, .iload_n 1, 1), (23, .invokestatic 156, 3), (26, .putfield 162, 3), (29, .iload_n 2, 1), (30, .ireturn, 1)]]
def im_181 : List (List (Nat × Instr × Nat)) := [[(0, .aload_n 0, 1), (1, .getfield 150, 3), (4, .aload_n 0, 1), (5, .getfield 162, 3), (8, .if_icmp .ge 20, 3), (11, .aload_n 0, 1), (12, .getfield 38, 3), (15, .aload_n 0, 1)], [(16, .getfield 150, 3), (19, .iaload, 1), (20, .iload_n 1, 1), (21, .if_icmp .ne 7, 3), (24, .iconst 1, 1), (25, .goto 4, 3), (28, .iconst 0, 1), (29, .istore_n 2, 1), (30, .aload_n 0, 1), (31, .dup, 1)], [(32, .getfield 150, 3), (35, .iload_n 2, 1), (36, .invokestatic 165, 3), (39, .iadd, 1), (40, .putfield 150, 3), (43, .iload_n 2, 1), (44, .ireturn, 1)]]
def im_182 : List (List (Nat × Instr × Nat)) := [[(0, .aload_n 0, 1), (1, .getfield 150, 3), (4, .aload_n 0, 1), (5, .getfield 162, 3), (8, .if_icmp .ge 29, 3), (11, .aload_n 0, 1), (12, .getfield 38, 3), (15, .aload_n 0, 1)], [(16, .getfield 150, 3), (19, .iaload, 1), (20, .i2l, 1), (21, .ldc2_w 169, 3), (24, .ldc2_w 171, 3), (27, .invokestatic 128, 3), (30, .ifCond .eq 7, 3)], [(33, .iconst 1, 1), (34, .goto 4, 3), (37, .iconst 0, 1), (38, .ireturn, 1)]]
def im_183 : List (List (Nat × Instr × Nat)) := [[(0, .iconst 0, 1), (1, .istore_n 2, 1), (2, .iload_n 2, 1), (3, .aload_n 1, 1), (4, .invokevirtual 173, 3), (7, .if_icmp .ge 49, 3), (10, .aload_n 0, 1), (11, .getfield 150, 3), (14, .aload_n 0, 1), (15, .getfield 162, 3)], [(18, .if_icmp .ge 38, 3), (21, .aload_n 1, 1), (22, .iload_n 2, 1), (23, .invokevirtual 179, 3), (26, .aload_n 0, 1), (27, .getfield 38, 3), (30, .aload_n 0, 1), (31, .getfield 150, 3)], [(34, .iaload, 1), (35, .if_icmp .ne 15, 3), (38, .aload_n 0, 1), (39, .dup, 1), (40, .getfield 150, 3), (43, .iconst 1, 1), (44, .iadd, 1), (45, .putfield 150, 3)], [(48, .iload_n 2, 1), (49, .ireturn, 1), (50, .iinc 2 1, 3), (53, .goto (-51), 3), (56, .iconst (-1), 1), (57, .ireturn, 1)]]
def im_184 : List (List (Nat × Instr × Nat)) := [[(0, .aload_n 0, 1), (1, .invokevirtual 183, 3), (4, .ifCond .ne 5, 3), (7, .iconst (-1), 1), (8, .ireturn, 1), (9, .iconst 0, 1), (10, .istore_n 2, 1), (11, .iconst 0, 1), (12, .istore_n 3, 1), (13, .iload_n 3, 1), (14, .iload_n 1, 1), (15, .if_icmp .ge 44, 3)], [(18, .aload_n 0, 1), (19, .invokevirtual 183, 3), (22, .ifCond .eq 37, 3), (25, .bipush 10, 2), (27, .iload_n 2, 1), (28, .imul, 1), (29, .aload_n 0, 1), (30, .getfield 38, 3)], [(33, .aload_n 0, 1), (34, .getfield 150, 3), (37, .iaload, 1), (38, .iadd, 1), (39, .bipush 48, 2), (41, .isub, 1), (42, .istore_n 2, 1), (43, .aload_n 0, 1), (44, .dup, 1), (45, .getfield 150, 3)], [(48, .iconst 1, 1), (49, .iadd, 1), (50, .putfield 150, 3), (53, .iinc 3 1, 3), (56, .goto (-43), 3), (59, .iload_n 2, 1), (60, .ireturn, 1)]]
def im_185 : List (List (Nat × Instr × Nat)) := [[(0, .aload_n 0, 1), (1, .getfield 150, 3), (4, .aload_n 0, 1), (5, .getfield 162, 3), (8, .if_icmp .ge 26, 3), (11, .aload_n 0, 1), (12, .getfield 38, 3), (15, .aload_n 0, 1)], [(16, .getfield 150, 3), (19, .iaload, 1), (20, .bipush 48, 2), (22, .isub, 1), (23, .i2l, 1), (24, .iload_n 1, 1), (25, .i2l, 1), (26, .iload_n 2, 1), (27, .i2l, 1), (28, .invokestatic 128, 3), (31, .ifCond .ne 5, 3)], [(34, .iconst (-1), 1), (35, .ireturn, 1), (36, .aload_n 0, 1), (37, .dup, 1), (38, .getfield 150, 3), (41, .iconst 1, 1), (42, .iadd, 1), (43, .putfield 150, 3), (46, .aload_n 0, 1), (47, .getfield 38, 3)], [(50, .aload_n 0, 1), (51, .getfield 150, 3), (54, .iconst 1, 1), (55, .isub, 1), (56, .iaload, 1), (57, .bipush 48, 2), (59, .isub, 1), (60, .ireturn, 1)]]
def im_186 : List (List (Nat × Instr × Nat)) := [[(0, .iload_n 3, 1), (1, .ifCond .eq 18, 3), (4, .aload_n 0, 1), (5, .getfield 150, 3), (8, .aload_n 0, 1), (9, .getfield 162, 3), (12, .if_icmp .ne 7, 3), (15, .iconst 1, 1)], [(16, .goto 4, 3), (19, .iconst 0, 1), (20, .istore 4, 2), (22, .iload_n 1, 1), (23, .iload_n 2, 1), (24, .if_icmp .le 20, 3), (27, .iload 4, 2), (29, .ifCond .ne 11, 3)], [(32, .aload_n 0, 1), (33, .getfield 150, 3), (36, .iload_n 2, 1), (37, .if_icmp .lt 7, 3), (40, .iconst (-1), 1), (41, .iload_n 2, 1), (42, .isub, 1), (43, .ireturn, 1), (44, .iload 4, 2), (46, .ifCond .eq 7, 3)], [(49, .iconst 0, 1), (50, .goto 9, 3), (53, .iconst (-1), 1), (54, .aload_n 0, 1), (55, .getfield 150, 3), (58, .isub, 1), (59, .ireturn, 1)]]
def im_187 : List (List (Nat × Instr × Nat)) := [[(0, .aload_n 0, 1), (1, .getfield 125, 3), (4, .aload_n 0, 1), (5, .getfield 187, 3), (8, .iadd, 1), (9, .bipush 6, 2), (11, .if_icmp .ne 5, 3), (14, .iconst 0, 1), (15, .ireturn, 1)], [(16, .bipush 6, 2), (18, .aload_n 0, 1), (19, .getfield 187, 3), (22, .imul, 1), (23, .istore_n 1, 1), (24, .aload_n 0, 1), (25, .getfield 41, 3), (28, .iload_n 1, 1), (29, .aload_n 0, 1), (30, .iconst 1, 1), (31, .bipush 9, 2)], [(33, .invokevirtual 190, 3), (36, .iastore, 1), (37, .aload_n 0, 1), (38, .getfield 41, 3), (41, .iload_n 1, 1), (42, .iaload, 1), (43, .ifCond .lt 7, 3), (46, .iconst 1, 1), (47, .goto 4, 3)], [(50, .iconst 0, 1), (51, .istore_n 2, 1), (52, .iconst 0, 1), (53, .istore_n 3, 1), (54, .iload_n 3, 1), (55, .iconst 5, 1), (56, .if_icmp .ge 47, 3), (59, .iload_n 2, 1), (60, .ifCond .eq 43, 3), (63, .aload_n 0, 1)], [(64, .getfield 41, 3), (67, .iload_n 1, 1), (68, .iconst 1, 1), (69, .iadd, 1), (70, .iload_n 3, 1), (71, .iadd, 1), (72, .aload_n 0, 1), (73, .iconst 1, 1), (74, .invokevirtual 193, 3), (77, .iastore, 1), (78, .aload_n 0, 1), (79, .getfield 41, 3)], [(82, .iload_n 1, 1), (83, .iconst 1, 1), (84, .iadd, 1), (85, .iload_n 3, 1), (86, .iadd, 1), (87, .iaload, 1), (88, .ifCond .lt 7, 3), (91, .iconst 1, 1), (92, .goto 4, 3), (95, .iconst 0, 1)], [(96, .istore_n 2, 1), (97, .iinc 3 1, 3), (100, .goto (-46), 3), (103, .aload_n 0, 1), (104, .dup, 1), (105, .getfield 187, 3), (108, .iconst 1, 1), (109, .iadd, 1), (110, .putfield 187, 3)], [(113, .iload_n 2, 1), (114, .ireturn, 1)]]
def im_188 : List (List (Nat × Instr × Nat)) := [[(0, .aload_n 0, 1), (1, .iconst 0, 1), (2, .putfield 114, 3), (5, .aload_n 0, 1), (6, .bipush 41, 2), (8, .invokevirtual 197, 3), (11, .istore_n 1, 1), (12, .aload_n 0, 1), (13, .iconst 0, 1), (14, .putfield 187, 3)], [(17, .iconst 1, 1), (18, .istore_n 2, 1), (19, .iload_n 1, 1), (20, .ifCond .le 7, 3), (23, .iconst 1, 1), (24, .goto 4, 3), (27, .iconst 0, 1), (28, .istore_n 3, 1), (29, .iload_n 3, 1), (30, .ifCond .eq 30, 3)], [(33, .aload_n 0, 1), (34, .invokevirtual 200, 3), (37, .istore_n 2, 1), (38, .iload_n 2, 1), (39, .ifCond .eq 16, 3), (42, .aload_n 0, 1), (43, .bipush 59, 2), (45, .invokevirtual 203, 3)], [(48, .ifCond .eq 7, 3), (51, .iconst 1, 1), (52, .goto 4, 3), (55, .iconst 0, 1), (56, .istore_n 3, 1), (57, .goto (-28), 3), (60, .aload_n 0, 1), (61, .iload_n 1, 1), (62, .bipush 41, 2)], [(64, .iload_n 2, 1), (65, .invokevirtual 206, 3), (68, .istore 4, 2), (70, .iload 4, 2), (72, .ifCond .ge 6, 3), (75, .iload 4, 2), (77, .ireturn, 1), (78, .iconst 0, 1), (79, .istore 5, 2)], [(81, .iload 5, 2), (83, .aload_n 0, 1), (84, .getfield 187, 3), (87, .if_icmp .ge 129, 3), (90, .aload_n 0, 1), (91, .getfield 13, 3), (94, .aload_n 0, 1), (95, .getfield 125, 3)], [(98, .aload_n 0, 1), (99, .getfield 41, 3), (102, .bipush 6, 2), (104, .iload 5, 2), (106, .imul, 1), (107, .iaload, 1), (108, .iastore, 1), (109, .iconst 0, 1), (110, .istore 6, 2)], [(112, .iload 6, 2), (114, .iconst 5, 1), (115, .if_icmp .ge 38, 3), (118, .aload_n 0, 1), (119, .getfield 17, 3), (122, .iconst 5, 1), (123, .aload_n 0, 1), (124, .getfield 125, 3), (127, .imul, 1)], [(128, .iload 6, 2), (130, .iadd, 1), (131, .aload_n 0, 1), (132, .getfield 41, 3), (135, .bipush 6, 2), (137, .iload 5, 2), (139, .imul, 1), (140, .iconst 1, 1), (141, .iadd, 1), (142, .iload 6, 2)], [(144, .iadd, 1), (145, .iaload, 1), (146, .iastore, 1), (147, .iinc 6 1, 3), (150, .goto (-38), 3), (153, .aload_n 0, 1), (154, .getfield 32, 3), (157, .aload_n 0, 1), (158, .getfield 125, 3)], [(161, .bipush 50, 2), (163, .iastore, 1), (164, .iconst 0, 1), (165, .istore 6, 2), (167, .iload 6, 2), (169, .bipush 6, 2), (171, .if_icmp .ge 29, 3), (174, .aload_n 0, 1), (175, .aload_n 0, 1)], [(176, .getfield 125, 3), (179, .iload 6, 2), (181, .invokevirtual 210, 3), (184, .aload_n 0, 1), (185, .iload 6, 2), (187, .aload_n 0, 1), (188, .getfield 125, 3), (191, .invokevirtual 210, 3)], [(194, .iinc 6 1, 3), (197, .goto (-30), 3), (200, .aload_n 0, 1), (201, .dup, 1), (202, .getfield 125, 3), (205, .iconst 1, 1), (206, .iadd, 1), (207, .putfield 125, 3)], [(210, .iinc 5 1, 3), (213, .goto (-132), 3), (216, .aload_n 0, 1), (217, .invokevirtual 214, 3), (220, .aload_n 0, 1), (221, .getfield 187, 3)], [(224, .ireturn, 1)]]
def im_189 : List (List (Nat × Instr × Nat)) := [[(0, .aload_n 0, 1), (1, .getfield 32, 3), (4, .bipush 6, 2), (6, .bipush 6, 2), (8, .iload_n 1, 1), (9, .imul, 1), (10, .iadd, 1), (11, .iload_n 2, 1), (12, .iadd, 1), (13, .bipush 10, 2), (15, .iastore, 1)], [(16, .aload_n 0, 1), (17, .getfield 32, 3), (20, .bipush 42, 2), (22, .bipush 6, 2), (24, .iload_n 1, 1), (25, .imul, 1), (26, .iadd, 1), (27, .iload_n 2, 1), (28, .iadd, 1), (29, .iconst 0, 1), (30, .iastore, 1), (31, .aload_n 0, 1)], [(32, .getfield 29, 3), (35, .bipush 6, 2), (37, .iload_n 1, 1), (38, .imul, 1), (39, .iload_n 2, 1), (40, .iadd, 1), (41, .iconst 0, 1), (42, .iastore, 1), (43, .return_, 1)]]
def im_190 : List (List (Nat × Instr × Nat)) := [[(0, .aload_n 0, 1), (1, .aload_n 0, 1), (2, .getfield 187, 3), (5, .ifCond .le 7, 3), (8, .iconst 0, 1), (9, .goto 7, 3), (12, .aload_n 0, 1), (13, .getfield 217, 3)], [(16, .putfield 217, 3), (19, .aload_n 0, 1), (20, .dup, 1), (21, .getfield 220, 3), (24, .aload_n 0, 1), (25, .getfield 187, 3), (28, .ifCond .le 7, 3), (31, .iconst 1, 1)], [(32, .goto 4, 3), (35, .iconst 0, 1), (36, .invokestatic 165, 3), (39, .iadd, 1), (40, .putfield 220, 3), (43, .return_, 1)]]
def im_191 : List (List (Nat × Instr × Nat)) := [[(0, .aload_n 0, 1), (1, .getfield 132, 3), (4, .aload_n 0, 1), (5, .getfield 187, 3), (8, .iadd, 1), (9, .bipush 8, 2), (11, .if_icmp .ne 5, 3), (14, .iconst 0, 1), (15, .ireturn, 1)], [(16, .iconst 4, 1), (17, .aload_n 0, 1), (18, .getfield 187, 3), (21, .imul, 1), (22, .istore_n 1, 1), (23, .aload_n 0, 1), (24, .getfield 41, 3), (27, .iload_n 1, 1), (28, .aload_n 0, 1), (29, .iconst 0, 1), (30, .iconst 4, 1), (31, .invokevirtual 190, 3)], [(34, .iastore, 1), (35, .aload_n 0, 1), (36, .getfield 41, 3), (39, .iload_n 1, 1), (40, .iaload, 1), (41, .ifCond .ge 5, 3), (44, .iconst 0, 1), (45, .ireturn, 1), (46, .aload_n 0, 1), (47, .getfield 41, 3)], [(50, .iload_n 1, 1), (51, .iconst 1, 1), (52, .iadd, 1), (53, .aload_n 0, 1), (54, .iconst 2, 1), (55, .invokevirtual 193, 3), (58, .iastore, 1), (59, .aload_n 0, 1), (60, .getfield 41, 3), (63, .iload_n 1, 1)], [(64, .iconst 1, 1), (65, .iadd, 1), (66, .iaload, 1), (67, .ifCond .ne 15, 3), (70, .aload_n 0, 1), (71, .dup, 1), (72, .getfield 150, 3), (75, .iconst 1, 1), (76, .isub, 1), (77, .putfield 150, 3)], [(80, .iconst 0, 1), (81, .ireturn, 1), (82, .aload_n 0, 1), (83, .getfield 41, 3), (86, .iload_n 1, 1), (87, .iconst 1, 1), (88, .iadd, 1), (89, .iaload, 1), (90, .ifCond .lt 12, 3), (93, .aload_n 0, 1), (94, .bipush 44, 2)], [(96, .invokevirtual 203, 3), (99, .ifCond .ne 5, 3), (102, .iconst 0, 1), (103, .ireturn, 1), (104, .aload_n 0, 1), (105, .getfield 41, 3), (108, .iload_n 1, 1), (109, .iconst 2, 1), (110, .iadd, 1), (111, .aload_n 0, 1)], [(112, .iconst 1, 1), (113, .invokevirtual 193, 3), (116, .iastore, 1), (117, .aload_n 0, 1), (118, .getfield 41, 3), (121, .iload_n 1, 1), (122, .iconst 3, 1), (123, .iadd, 1), (124, .aload_n 0, 1), (125, .getfield 41, 3)], [(128, .iload_n 1, 1), (129, .iconst 2, 1), (130, .iadd, 1), (131, .iaload, 1), (132, .ifCond .ge 7, 3), (135, .iconst (-1), 1), (136, .goto 14, 3), (139, .aload_n 0, 1), (140, .iconst 0, 1), (141, .aload_n 0, 1), (142, .getfield 125, 3)], [(145, .iconst 1, 1), (146, .isub, 1), (147, .invokevirtual 190, 3), (150, .iastore, 1), (151, .aload_n 0, 1), (152, .dup, 1), (153, .getfield 187, 3), (156, .iconst 1, 1), (157, .iadd, 1), (158, .putfield 187, 3)], [(161, .aload_n 0, 1), (162, .getfield 41, 3), (165, .iload_n 1, 1), (166, .iconst 3, 1), (167, .iadd, 1), (168, .iaload, 1), (169, .ifCond .lt 7, 3), (172, .iconst 1, 1), (173, .goto 4, 3)], [(176, .iconst 0, 1), (177, .ireturn, 1)]]
def im_192 : List (List (Nat × Instr × Nat)) := [[(0, .aload_n 0, 1), (1, .iconst 0, 1), (2, .putfield 114, 3), (5, .aload_n 0, 1), (6, .bipush 55, 2), (8, .invokevirtual 197, 3), (11, .istore_n 1, 1), (12, .aload_n 0, 1), (13, .iconst 0, 1), (14, .putfield 187, 3)], [(17, .iconst 1, 1), (18, .istore_n 2, 1), (19, .iload_n 1, 1), (20, .ifCond .le 7, 3), (23, .iconst 1, 1), (24, .goto 4, 3), (27, .iconst 0, 1), (28, .istore_n 3, 1), (29, .iload_n 3, 1), (30, .ifCond .eq 30, 3)], [(33, .aload_n 0, 1), (34, .invokevirtual 223, 3), (37, .istore_n 2, 1), (38, .iload_n 2, 1), (39, .ifCond .eq 16, 3), (42, .aload_n 0, 1), (43, .bipush 59, 2), (45, .invokevirtual 203, 3)], [(48, .ifCond .eq 7, 3), (51, .iconst 1, 1), (52, .goto 4, 3), (55, .iconst 0, 1), (56, .istore_n 3, 1), (57, .goto (-28), 3), (60, .aload_n 0, 1), (61, .iload_n 1, 1), (62, .bipush 55, 2)], [(64, .iload_n 2, 1), (65, .invokevirtual 206, 3), (68, .istore 4, 2), (70, .iload 4, 2), (72, .ifCond .ge 6, 3), (75, .iload 4, 2), (77, .ireturn, 1), (78, .iconst 0, 1), (79, .istore 5, 2)], [(81, .iload 5, 2), (83, .aload_n 0, 1), (84, .getfield 187, 3), (87, .if_icmp .ge 143, 3), (90, .aload_n 0, 1), (91, .getfield 20, 3), (94, .aload_n 0, 1), (95, .getfield 132, 3)], [(98, .aload_n 0, 1), (99, .getfield 41, 3), (102, .iconst 4, 1), (103, .iload 5, 2), (105, .imul, 1), (106, .iaload, 1), (107, .iastore, 1), (108, .aload_n 0, 1), (109, .getfield 23, 3)], [(112, .aload_n 0, 1), (113, .getfield 132, 3), (116, .aload_n 0, 1), (117, .getfield 41, 3), (120, .iconst 4, 1), (121, .iload 5, 2), (123, .imul, 1), (124, .iconst 1, 1), (125, .iadd, 1), (126, .iaload, 1), (127, .iastore, 1)], [(128, .aload_n 0, 1), (129, .getfield 26, 3), (132, .aload_n 0, 1), (133, .getfield 132, 3), (136, .aload_n 0, 1), (137, .getfield 41, 3), (140, .iconst 4, 1), (141, .iload 5, 2), (143, .imul, 1)], [(144, .iconst 2, 1), (145, .iadd, 1), (146, .iaload, 1), (147, .iastore, 1), (148, .aload_n 0, 1), (149, .getfield 32, 3), (152, .bipush 78, 2), (154, .aload_n 0, 1), (155, .getfield 132, 3), (158, .iadd, 1), (159, .aload_n 0, 1)], [(160, .getfield 41, 3), (163, .iconst 4, 1), (164, .iload 5, 2), (166, .imul, 1), (167, .iconst 3, 1), (168, .iadd, 1), (169, .iaload, 1), (170, .iastore, 1), (171, .aload_n 0, 1), (172, .getfield 32, 3), (175, .bipush 86, 2)], [(177, .aload_n 0, 1), (178, .getfield 132, 3), (181, .iadd, 1), (182, .iconst 1, 1), (183, .aload_n 0, 1), (184, .getfield 41, 3), (187, .iconst 4, 1), (188, .iload 5, 2), (190, .imul, 1), (191, .iconst 3, 1)], [(192, .iadd, 1), (193, .iaload, 1), (194, .ishl, 1), (195, .iastore, 1), (196, .aload_n 0, 1), (197, .getfield 32, 3), (200, .bipush 94, 2), (202, .dup2, 1), (203, .iaload, 1), (204, .iconst 1, 1), (205, .aload_n 0, 1), (206, .getfield 132, 3)], [(209, .ishl, 1), (210, .iconst (-1), 1), (211, .ixor, 1), (212, .iand, 1), (213, .iastore, 1), (214, .aload_n 0, 1), (215, .dup, 1), (216, .getfield 132, 3), (219, .iconst 1, 1), (220, .iadd, 1), (221, .putfield 132, 3)], [(224, .iinc 5 1, 3), (227, .goto (-146), 3), (230, .aload_n 0, 1), (231, .invokevirtual 214, 3), (234, .aload_n 0, 1), (235, .getfield 187, 3), (238, .ireturn, 1)]]
def im_193 : List (List (Nat × Instr × Nat)) := [[(0, .aload_n 0, 1), (1, .getfield 47, 3), (4, .aload_n 0, 1), (5, .getfield 226, 3), (8, .iload_n 1, 1), (9, .iastore, 1), (10, .aload_n 0, 1), (11, .dup, 1), (12, .getfield 226, 3), (15, .iconst 1, 1)], [(16, .iadd, 1), (17, .putfield 226, 3), (20, .return_, 1)]]
def im_194 : List (List (Nat × Instr × Nat)) := [[(0, .aload_n 0, 1), (1, .bipush 45, 2), (3, .invokevirtual 203, 3), (6, .ifCond .eq 17, 3), (9, .aload_n 0, 1), (10, .invokevirtual 229, 3), (13, .istore_n 1, 1), (14, .aload_n 0, 1), (15, .sipush 3000, 3)], [(18, .invokevirtual 232, 3), (21, .iload_n 1, 1), (22, .ireturn, 1), (23, .aload_n 0, 1), (24, .invokevirtual 183, 3), (27, .ifCond .eq 14, 3), (30, .aload_n 0, 1), (31, .aload_n 0, 1)], [(32, .iconst 3, 1), (33, .invokevirtual 193, 3), (36, .invokevirtual 232, 3), (39, .iconst 1, 1), (40, .ireturn, 1), (41, .aload_n 0, 1), (42, .ldc 236, 2), (44, .invokevirtual 238, 3), (47, .istore_n 1, 1)], [(48, .iload_n 1, 1), (49, .ifCond .lt 14, 3), (52, .aload_n 0, 1), (53, .sipush 1000, 3), (56, .iload_n 1, 1), (57, .iadd, 1), (58, .invokevirtual 232, 3), (61, .iconst 1, 1), (62, .ireturn, 1), (63, .aload_n 0, 1)], [(64, .getfield 153, 3), (67, .iconst 4, 1), (68, .if_icmp .eq 12, 3), (71, .aload_n 0, 1), (72, .bipush 40, 2), (74, .invokevirtual 203, 3), (77, .ifCond .ne 5, 3)], [(80, .iconst 0, 1), (81, .ireturn, 1), (82, .aload_n 0, 1), (83, .dup, 1), (84, .getfield 153, 3), (87, .iconst 1, 1), (88, .iadd, 1), (89, .putfield 153, 3), (92, .aload_n 0, 1), (93, .iconst 0, 1), (94, .invokevirtual 242, 3)], [(97, .ifCond .eq 12, 3), (100, .aload_n 0, 1), (101, .bipush 41, 2), (103, .invokevirtual 203, 3), (106, .ifCond .ne 5, 3), (109, .iconst 0, 1), (110, .ireturn, 1), (111, .aload_n 0, 1)], [(112, .dup, 1), (113, .getfield 153, 3), (116, .iconst 1, 1), (117, .isub, 1), (118, .putfield 153, 3), (121, .iconst 1, 1), (122, .ireturn, 1)]]
def im_195 : List (List (Nat × Instr × Nat)) := [[(0, .iload_n 1, 1), (1, .iconst 3, 1), (2, .if_icmp .ne 8, 3), (5, .aload_n 0, 1), (6, .invokevirtual 229, 3), (9, .ireturn, 1), (10, .aload_n 0, 1), (11, .iload_n 1, 1), (12, .iconst 1, 1), (13, .iadd, 1), (14, .invokevirtual 242, 3)], [(17, .ifCond .ne 5, 3), (20, .iconst 0, 1), (21, .ireturn, 1), (22, .iconst 1, 1), (23, .istore_n 2, 1), (24, .iload_n 2, 1), (25, .ifCond .eq 88, 3), (28, .aload_n 0, 1), (29, .iload_n 1, 1), (30, .ifCond .ne 8, 3)], [(33, .ldc 245, 2), (35, .goto 15, 3), (38, .iload_n 1, 1), (39, .iconst 1, 1), (40, .if_icmp .ne 8, 3), (43, .ldc 247, 2), (45, .goto 5, 3)], [(48, .ldc 249, 2), (50, .invokevirtual 238, 3), (53, .istore_n 3, 1), (54, .iload_n 3, 1), (55, .ifCond .ge 5, 3), (58, .iconst 1, 1), (59, .ireturn, 1), (60, .aload_n 0, 1), (61, .iload_n 1, 1), (62, .iconst 1, 1), (63, .iadd, 1)], [(64, .invokevirtual 242, 3), (67, .ifCond .ne 5, 3), (70, .iconst 0, 1), (71, .ireturn, 1), (72, .aload_n 0, 1), (73, .sipush 2000, 3), (76, .iload_n 3, 1), (77, .iadd, 1), (78, .iload_n 1, 1), (79, .ifCond .ne 7, 3)], [(82, .iconst 0, 1), (83, .goto 13, 3), (86, .iload_n 1, 1), (87, .iconst 1, 1), (88, .if_icmp .ne 7, 3), (91, .iconst 3, 1), (92, .goto 4, 3), (95, .iconst 5, 1)], [(96, .iadd, 1), (97, .invokevirtual 232, 3), (100, .iload_n 1, 1), (101, .ifCond .le 7, 3), (104, .iconst 1, 1), (105, .goto 4, 3), (108, .iconst 0, 1), (109, .istore_n 2, 1), (110, .goto (-86), 3)], [(113, .iconst 1, 1), (114, .ireturn, 1)]]
def im_196 : List (List (Nat × Instr × Nat)) := [[(0, .aload_n 0, 1), (1, .bipush 40, 2), (3, .invokevirtual 197, 3), (6, .istore_n 1, 1), (7, .aload_n 0, 1), (8, .iconst 0, 1), (9, .putfield 226, 3), (12, .iload_n 1, 1), (13, .ifCond .eq 11, 3)], [(16, .aload_n 0, 1), (17, .iconst 0, 1), (18, .invokevirtual 242, 3), (21, .ifCond .eq 7, 3), (24, .iconst 1, 1), (25, .goto 4, 3), (28, .iconst 0, 1), (29, .istore_n 2, 1), (30, .aload_n 0, 1), (31, .iload_n 1, 1)], [(32, .bipush 40, 2), (34, .iload_n 2, 1), (35, .invokevirtual 206, 3), (38, .ireturn, 1)]]
def im_197 : List (List (Nat × Instr × Nat)) := [[(0, .aload_n 0, 1), (1, .iload_n 2, 1), (2, .putfield 251, 3), (5, .iconst 0, 1), (6, .istore_n 3, 1), (7, .iload_n 3, 1), (8, .iload_n 2, 1), (9, .if_icmp .ge 18, 3), (12, .aload_n 0, 1), (13, .getfield 44, 3)], [(16, .iload_n 3, 1), (17, .aload_n 1, 1), (18, .iload_n 3, 1), (19, .iaload, 1), (20, .iastore, 1), (21, .iinc 3 1, 3), (24, .goto (-17), 3), (27, .return_, 1)]]
def im_198 : List (List (Nat × Instr × Nat)) := [[(0, .aload_n 0, 1), (1, .iconst 0, 1), (2, .putfield 114, 3), (5, .aload_n 0, 1), (6, .invokevirtual 254, 3), (9, .istore_n 1, 1), (10, .iload_n 1, 1), (11, .ifCond .ne 15, 3), (14, .aload_n 0, 1), (15, .aload_n 0, 1)], [(16, .getfield 47, 3), (19, .aload_n 0, 1), (20, .getfield 226, 3), (23, .invokevirtual 257, 3), (26, .iload_n 1, 1), (27, .ireturn, 1)]]
def im_199 : List (List (Nat × Instr × Nat)) := [[(0, .iload_n 0, 1), (1, .tableswitch 93 0 5 #[39, 53, 67, 81, 85, 89], 39)], [], [(40, .iload_n 1, 1), (41, .iload_n 2, 1), (42, .if_icmp .ge 7, 3), (45, .iconst 1, 1), (46, .goto 4, 3)], [(49, .iconst 0, 1), (50, .invokestatic 165, 3), (53, .ireturn, 1), (54, .iload_n 1, 1), (55, .iload_n 2, 1), (56, .if_icmp .le 7, 3), (59, .iconst 1, 1), (60, .goto 4, 3), (63, .iconst 0, 1)], [(64, .invokestatic 165, 3), (67, .ireturn, 1), (68, .iload_n 1, 1), (69, .iload_n 2, 1), (70, .if_icmp .ne 7, 3), (73, .iconst 1, 1), (74, .goto 4, 3), (77, .iconst 0, 1), (78, .invokestatic 165, 3)], [(81, .ireturn, 1), (82, .iload_n 1, 1), (83, .iload_n 2, 1), (84, .iadd, 1), (85, .ireturn, 1), (86, .iload_n 1, 1), (87, .iload_n 2, 1), (88, .isub, 1), (89, .ireturn, 1), (90, .iload_n 1, 1), (91, .iload_n 2, 1), (92, .imul, 1), (93, .ireturn, 1), (94, .iload_n 2, 1), (95, .ifCond .ne 7, 3)], [(98, .iconst 0, 1), (99, .goto 6, 3), (102, .iload_n 1, 1), (103, .iload_n 2, 1), (104, .idiv, 1), (105, .ireturn, 1)]]
def im_200 : List (List (Nat × Instr × Nat)) := [[(0, .iconst 0, 1), (1, .istore_n 1, 1), (2, .iconst 0, 1), (3, .istore_n 2, 1), (4, .iload_n 2, 1), (5, .aload_n 0, 1), (6, .getfield 251, 3), (9, .if_icmp .ge 116, 3), (12, .aload_n 0, 1), (13, .getfield 44, 3)], [(16, .iload_n 2, 1), (17, .iaload, 1), (18, .istore_n 3, 1), (19, .iload_n 3, 1), (20, .sipush 3000, 3), (23, .if_icmp .ne 23, 3), (26, .aload_n 0, 1), (27, .getfield 50, 3), (30, .iload_n 1, 1), (31, .iconst 1, 1)], [(32, .isub, 1), (33, .aload_n 0, 1), (34, .getfield 50, 3), (37, .iload_n 1, 1), (38, .iconst 1, 1), (39, .isub, 1), (40, .iaload, 1), (41, .ineg, 1), (42, .iastore, 1), (43, .goto 76, 3), (46, .iload_n 3, 1), (47, .sipush 2000, 3)], [(50, .if_icmp .lt 39, 3), (53, .iinc 1 (-1), 3), (56, .aload_n 0, 1), (57, .getfield 50, 3), (60, .iload_n 1, 1), (61, .iconst 1, 1), (62, .isub, 1), (63, .iload_n 3, 1)], [(64, .sipush 2000, 3), (67, .isub, 1), (68, .aload_n 0, 1), (69, .getfield 50, 3), (72, .iload_n 1, 1), (73, .iconst 1, 1), (74, .isub, 1), (75, .iaload, 1), (76, .aload_n 0, 1), (77, .getfield 50, 3)], [(80, .iload_n 1, 1), (81, .iaload, 1), (82, .invokestatic 261, 3), (85, .iastore, 1), (86, .goto 33, 3), (89, .aload_n 0, 1), (90, .getfield 50, 3), (93, .iload_n 1, 1), (94, .iload_n 3, 1), (95, .sipush 1000, 3)], [(98, .if_icmp .lt 16, 3), (101, .aload_n 0, 1), (102, .getfield 53, 3), (105, .iload_n 3, 1), (106, .sipush 1000, 3), (109, .isub, 1), (110, .iaload, 1), (111, .goto 4, 3)], [(114, .iload_n 3, 1), (115, .iastore, 1), (116, .iinc 1 1, 3), (119, .iinc 2 1, 3), (122, .goto (-118), 3), (125, .aload_n 0, 1), (126, .getfield 251, 3)], [(129, .ifCond .ne 21, 3), (132, .aload_n 0, 1), (133, .getfield 53, 3), (136, .iconst 0, 1), (137, .iaload, 1), (138, .aload_n 0, 1), (139, .getfield 53, 3), (142, .iconst 1, 1), (143, .iaload, 1)], [(144, .imul, 1), (145, .iconst 5, 1), (146, .idiv, 1), (147, .goto 9, 3), (150, .aload_n 0, 1), (151, .getfield 50, 3), (154, .iconst 0, 1), (155, .iaload, 1), (156, .ireturn, 1)]]
def im_201 : List (List (Nat × Instr × Nat)) := [[(0, .aload_n 0, 1), (1, .getfield 53, 3), (4, .iconst 0, 1), (5, .aload_n 0, 1), (6, .getfield 23, 3), (9, .iload_n 2, 1), (10, .iaload, 1), (11, .iastore, 1), (12, .aload_n 0, 1), (13, .getfield 53, 3)], [(16, .iconst 1, 1), (17, .aload_n 0, 1), (18, .getfield 17, 3), (21, .iconst 5, 1), (22, .iload_n 3, 1), (23, .imul, 1), (24, .aload_n 0, 1), (25, .getfield 20, 3), (28, .iload_n 2, 1), (29, .iaload, 1), (30, .iadd, 1), (31, .iaload, 1)], [(32, .iastore, 1), (33, .aload_n 0, 1), (34, .getfield 53, 3), (37, .iconst 2, 1), (38, .aload_n 0, 1), (39, .getfield 13, 3), (42, .iload_n 3, 1), (43, .iaload, 1), (44, .iastore, 1), (45, .aload_n 0, 1), (46, .getfield 53, 3)], [(49, .iconst 3, 1), (50, .aload_n 0, 1), (51, .getfield 13, 3), (54, .aload_n 1, 1), (55, .bipush 78, 2), (57, .iload_n 2, 1), (58, .iadd, 1), (59, .iaload, 1), (60, .iaload, 1), (61, .iastore, 1), (62, .aload_n 0, 1), (63, .getfield 53, 3)], [(66, .iconst 4, 1), (67, .aload_n 1, 1), (68, .bipush 86, 2), (70, .iload_n 2, 1), (71, .iadd, 1), (72, .iaload, 1), (73, .invokestatic 265, 3), (76, .iastore, 1), (77, .aload_n 0, 1), (78, .getfield 53, 3)], [(81, .iconst 5, 1), (82, .aload_n 0, 1), (83, .getfield 26, 3), (86, .iload_n 2, 1), (87, .iaload, 1), (88, .iastore, 1), (89, .aload_n 0, 1), (90, .getfield 53, 3), (93, .bipush 6, 2), (95, .aload_n 1, 1)], [(96, .iload_n 2, 1), (97, .invokestatic 270, 3), (100, .invokestatic 165, 3), (103, .iastore, 1), (104, .iconst 0, 1), (105, .sipush 999, 3), (108, .aload_n 0, 1), (109, .invokevirtual 274, 3)], [(112, .invokestatic 156, 3), (115, .invokestatic 277, 3), (118, .ireturn, 1)]]
def im_202 : List (List (Nat × Instr × Nat)) := [[(0, .iconst 0, 1), (1, .istore_n 2, 1), (2, .iconst 0, 1), (3, .istore_n 3, 1), (4, .iload_n 3, 1), (5, .aload_n 0, 1), (6, .getfield 125, 3), (9, .if_icmp .ge 31, 3), (12, .iload_n 2, 1), (13, .aload_n 0, 1), (14, .getfield 32, 3)], [(17, .iload_n 1, 1), (18, .iload_n 3, 1), (19, .invokestatic 280, 3), (22, .ifCond .eq 9, 3), (25, .iconst 1, 1), (26, .iload_n 3, 1), (27, .ishl, 1), (28, .goto 4, 3), (31, .iconst 0, 1)], [(32, .ior, 1), (33, .istore_n 2, 1), (34, .iinc 3 1, 3), (37, .goto (-33), 3), (40, .iload_n 2, 1), (41, .ireturn, 1)]]
def im_203 : List (List (Nat × Instr × Nat)) := [[(0, .iconst 0, 1), (1, .istore_n 2, 1), (2, .iconst 0, 1), (3, .istore_n 3, 1), (4, .iload_n 3, 1), (5, .aload_n 0, 1), (6, .getfield 125, 3), (9, .if_icmp .ge 31, 3), (12, .iload_n 2, 1), (13, .aload_n 0, 1), (14, .getfield 32, 3)], [(17, .iload_n 1, 1), (18, .iload_n 3, 1), (19, .invokestatic 284, 3), (22, .ifCond .eq 9, 3), (25, .iconst 1, 1), (26, .iload_n 3, 1), (27, .ishl, 1), (28, .goto 4, 3), (31, .iconst 0, 1)], [(32, .ior, 1), (33, .istore_n 2, 1), (34, .iinc 3 1, 3), (37, .goto (-33), 3), (40, .iload_n 2, 1), (41, .ireturn, 1)]]
def im_204 : List (List (Nat × Instr × Nat)) := [[(0, .iconst 0, 1), (1, .istore_n 2, 1), (2, .iconst 0, 1), (3, .istore_n 3, 1), (4, .iload_n 3, 1), (5, .aload_n 0, 1), (6, .getfield 125, 3), (9, .if_icmp .ge 21, 3), (12, .iload_n 2, 1), (13, .aload_n 0, 1), (14, .getfield 32, 3)], [(17, .iload_n 1, 1), (18, .iload_n 3, 1), (19, .invokestatic 287, 3), (22, .iadd, 1), (23, .istore_n 2, 1), (24, .iinc 3 1, 3), (27, .goto (-23), 3), (30, .iload_n 2, 1), (31, .ireturn, 1)]]
def im_205 : List (List (Nat × Instr × Nat)) := [[(0, .iconst 0, 1), (1, .istore_n 2, 1), (2, .iconst 0, 1), (3, .istore_n 3, 1), (4, .iload_n 3, 1), (5, .aload_n 0, 1), (6, .getfield 125, 3), (9, .if_icmp .ge 21, 3), (12, .iload_n 2, 1), (13, .aload_n 0, 1), (14, .getfield 32, 3)], [(17, .iload_n 3, 1), (18, .iload_n 1, 1), (19, .invokestatic 287, 3), (22, .iadd, 1), (23, .istore_n 2, 1), (24, .iinc 3 1, 3), (27, .goto (-23), 3), (30, .iload_n 2, 1), (31, .ireturn, 1)]]
def im_206 : List (List (Nat × Instr × Nat)) := [[(0, .aload_n 0, 1), (1, .iconst 0, 1), (2, .putfield 114, 3), (5, .aload_n 0, 1), (6, .iload_n 1, 1), (7, .invokevirtual 135, 3), (10, .ifCond .eq 29, 3), (13, .iload_n 2, 1), (14, .i2l, 1), (15, .lconst 0, 1)], [(16, .ldc2_w 290, 3), (19, .invokestatic 128, 3), (22, .ifCond .ne 22, 3), (25, .iload_n 2, 1), (26, .i2l, 1), (27, .ldc2_w 292, 3), (30, .ldc2_w 294, 3)], [(33, .invokestatic 128, 3), (36, .ifCond .ne 8, 3), (39, .aload_n 0, 1), (40, .invokevirtual 296, 3), (43, .ireturn, 1), (44, .iload_n 2, 1), (45, .tableswitch 81 0 5 #[39, 46, 53, 63, 69, 75], 39)], [], [], [(84, .aload_n 0, 1), (85, .getfield 13, 3), (88, .iload_n 1, 1), (89, .iaload, 1), (90, .ireturn, 1), (91, .aload_n 0, 1), (92, .getfield 32, 3), (95, .iload_n 1, 1)], [(96, .iaload, 1), (97, .ireturn, 1), (98, .aload_n 0, 1), (99, .aload_n 0, 1), (100, .getfield 32, 3), (103, .iload_n 1, 1), (104, .invokevirtual 299, 3), (107, .ireturn, 1), (108, .aload_n 0, 1), (109, .iload_n 1, 1), (110, .invokevirtual 303, 3)], [(113, .ireturn, 1), (114, .aload_n 0, 1), (115, .iload_n 1, 1), (116, .invokevirtual 306, 3), (119, .ireturn, 1), (120, .aload_n 0, 1), (121, .iload_n 1, 1), (122, .invokevirtual 309, 3), (125, .ireturn, 1), (126, .aload_n 0, 1), (127, .getfield 17, 3)], [(130, .iconst 5, 1), (131, .iload_n 1, 1), (132, .imul, 1), (133, .iload_n 2, 1), (134, .iadd, 1), (135, .bipush 10, 2), (137, .isub, 1), (138, .iaload, 1), (139, .ireturn, 1)]]
def im_207 : List (List (Nat × Instr × Nat)) := [[(0, .aload_n 0, 1), (1, .iconst 0, 1), (2, .putfield 114, 3), (5, .aload_n 0, 1), (6, .iload_n 1, 1), (7, .iload_n 2, 1), (8, .invokevirtual 312, 3), (11, .ifCond .eq 15, 3), (14, .iload_n 3, 1), (15, .i2l, 1)], [(16, .lconst 0, 1), (17, .ldc2_w 315, 3), (20, .invokestatic 128, 3), (23, .ifCond .ne 8, 3), (26, .aload_n 0, 1), (27, .invokevirtual 296, 3), (30, .ireturn, 1), (31, .aload_n 0, 1)], [(32, .getfield 29, 3), (35, .bipush 6, 2), (37, .iload_n 1, 1), (38, .imul, 1), (39, .iload_n 2, 1), (40, .iadd, 1), (41, .iaload, 1), (42, .istore 4, 2), (44, .iload_n 3, 1), (45, .ifCond .ne 15, 3)], [(48, .aload_n 0, 1), (49, .getfield 32, 3), (52, .iload_n 1, 1), (53, .iload_n 2, 1), (54, .invokestatic 143, 3), (57, .goto 31, 3), (60, .iload_n 3, 1), (61, .iconst 1, 1), (62, .if_icmp .ne 15, 3)], [(65, .aload_n 0, 1), (66, .getfield 32, 3), (69, .iload_n 1, 1), (70, .iload_n 2, 1), (71, .invokestatic 287, 3), (74, .goto 14, 3), (77, .iload 4, 2), (79, .ifCond .ne 7, 3)], [(82, .iconst (-1), 1), (83, .goto 5, 3), (86, .iload 4, 2), (88, .ireturn, 1)]]
def im_208 : List (List (Nat × Instr × Nat)) := [[(0, .aload_n 0, 1), (1, .iconst 0, 1), (2, .putfield 114, 3), (5, .aload_n 0, 1), (6, .iload_n 1, 1), (7, .invokevirtual 317, 3), (10, .ifCond .eq 15, 3), (13, .iload_n 2, 1), (14, .i2l, 1), (15, .lconst 0, 1)], [(16, .ldc2_w 290, 3), (19, .invokestatic 128, 3), (22, .ifCond .ne 8, 3), (25, .aload_n 0, 1), (26, .invokevirtual 296, 3), (29, .ireturn, 1), (30, .iload_n 2, 1), (31, .tableswitch 74 0 4 #[33, 40, 47, 54, 64], 33)], [], [], [(64, .aload_n 0, 1), (65, .getfield 20, 3), (68, .iload_n 1, 1), (69, .iaload, 1), (70, .ireturn, 1), (71, .aload_n 0, 1), (72, .getfield 23, 3), (75, .iload_n 1, 1), (76, .iaload, 1), (77, .ireturn, 1), (78, .aload_n 0, 1), (79, .getfield 26, 3)], [(82, .iload_n 1, 1), (83, .iaload, 1), (84, .ireturn, 1), (85, .aload_n 0, 1), (86, .getfield 32, 3), (89, .bipush 78, 2), (91, .iload_n 1, 1), (92, .iadd, 1), (93, .iaload, 1), (94, .ireturn, 1), (95, .aload_n 0, 1)], [(96, .getfield 32, 3), (99, .bipush 86, 2), (101, .iload_n 1, 1), (102, .iadd, 1), (103, .iaload, 1), (104, .ireturn, 1), (105, .aload_n 0, 1), (106, .getfield 32, 3), (109, .iload_n 1, 1), (110, .invokestatic 270, 3)], [(113, .invokestatic 165, 3), (116, .ireturn, 1)]]
def im_209 : List (List (Nat × Instr × Nat)) := [[(0, .aload_n 0, 1), (1, .iconst 0, 1), (2, .putfield 114, 3), (5, .aload_n 0, 1), (6, .iload_n 1, 1), (7, .iload_n 2, 1), (8, .invokevirtual 312, 3), (11, .ifCond .eq 15, 3), (14, .iload_n 3, 1), (15, .i2l, 1)], [(16, .lconst 0, 1), (17, .ldc2_w 320, 3), (20, .invokestatic 128, 3), (23, .ifCond .ne 5, 3), (26, .iconst (-1), 1), (27, .ireturn, 1), (28, .aload_n 0, 1), (29, .getfield 29, 3)], [(32, .bipush 6, 2), (34, .iload_n 1, 1), (35, .imul, 1), (36, .iload_n 2, 1), (37, .iadd, 1), (38, .iaload, 1), (39, .istore 4, 2), (41, .aload_n 0, 1), (42, .getfield 29, 3), (45, .bipush 6, 2), (47, .iload_n 1, 1)], [(48, .imul, 1), (49, .iload_n 2, 1), (50, .iadd, 1), (51, .iload_n 3, 1), (52, .iastore, 1), (53, .aload_n 0, 1), (54, .getfield 29, 3), (57, .bipush 6, 2), (59, .iload_n 2, 1), (60, .imul, 1), (61, .iload_n 1, 1), (62, .iadd, 1), (63, .iload_n 3, 1)], [(64, .iastore, 1), (65, .iload 4, 2), (67, .ireturn, 1)]]
def im_210 : List (List (Nat × Instr × Nat)) := [[(0, .aload_n 0, 1), (1, .iconst 0, 1), (2, .putfield 114, 3), (5, .iload_n 1, 1), (6, .i2l, 1), (7, .lconst 0, 1), (8, .ldc2_w 322, 3), (11, .invokestatic 128, 3), (14, .ifCond .eq 9, 3)], [(17, .iload_n 2, 1), (18, .bipush 6, 2), (20, .if_icmp .le 5, 3), (23, .iconst (-1), 1), (24, .ireturn, 1), (25, .iload_n 1, 1), (26, .iconst 3, 1), (27, .if_icmp .eq 10, 3), (30, .iload_n 2, 1), (31, .ifCond .ge 6, 3)], [(34, .bipush (-2), 2), (36, .ireturn, 1), (37, .iload_n 3, 1), (38, .istore 5, 2), (40, .iconst 0, 1), (41, .istore 6, 2), (43, .iload 6, 2), (45, .aload_n 0, 1), (46, .getfield 125, 3)], [(49, .if_icmp .ge 75, 3), (52, .iload_n 1, 1), (53, .ifCond .ne 9, 3), (56, .iload 5, 2), (58, .i2b, 1), (59, .goto 16, 3), (62, .iload_n 1, 1), (63, .iconst 1, 1)], [(64, .if_icmp .ne 9, 3), (67, .iload 5, 2), (69, .i2s, 1), (70, .goto 5, 3), (73, .iload 5, 2), (75, .istore 7, 2), (77, .aload_n 0, 1), (78, .getfield 32, 3)], [(81, .iload 6, 2), (83, .iload_n 1, 1), (84, .iconst 3, 1), (85, .if_icmp .eq 9, 3), (88, .iload 6, 2), (90, .iload_n 2, 1), (91, .if_icmp .lt 7, 3), (94, .iconst 0, 1), (95, .goto 15, 3)], [(98, .iconst 0, 1), (99, .sipush 999, 3), (102, .iload 7, 2), (104, .invokestatic 156, 3), (107, .invokestatic 277, 3), (110, .iastore, 1), (111, .iload 5, 2)], [(113, .iload 4, 2), (115, .iadd, 1), (116, .istore 5, 2), (118, .iinc 6 1, 3), (121, .goto (-78), 3), (124, .iload_n 1, 1), (125, .iconst 3, 1), (126, .if_icmp .ne 8, 3)], [(129, .bipush (-3), 2), (131, .goto 11, 3), (134, .aload_n 0, 1), (135, .aload_n 0, 1), (136, .getfield 32, 3), (139, .invokevirtual 324, 3), (142, .ireturn, 1)]]
def im_211 : List (List (Nat × Instr × Nat)) := [[(0, .iconst 0, 1), (1, .istore_n 1, 1), (2, .iload_n 1, 1), (3, .bipush 96, 2), (5, .if_icmp .ge 29, 3), (8, .aload_n 0, 1), (9, .getfield 56, 3), (12, .bipush 96, 2), (14, .aload_n 0, 1), (15, .getfield 217, 3)], [(18, .imul, 1), (19, .iload_n 1, 1), (20, .iadd, 1), (21, .aload_n 0, 1), (22, .getfield 32, 3), (25, .iload_n 1, 1), (26, .iaload, 1), (27, .iastore, 1), (28, .iinc 1 1, 3), (31, .goto (-29), 3)], [(34, .return_, 1)]]
def im_212 : List (List (Nat × Instr × Nat)) := [[(0, .aload_n 0, 1), (1, .dup, 1), (2, .getfield 217, 3), (5, .iconst 1, 1), (6, .iadd, 1), (7, .putfield 217, 3), (10, .aload_n 0, 1), (11, .getfield 217, 3), (14, .bipush 15, 2)], [(16, .if_icmp .le 43, 3), (19, .iconst 0, 1), (20, .istore_n 2, 1), (21, .iload_n 2, 1), (22, .sipush 1440, 3), (25, .if_icmp .ge 24, 3), (28, .aload_n 0, 1), (29, .getfield 56, 3)], [(32, .iload_n 2, 1), (33, .aload_n 0, 1), (34, .getfield 56, 3), (37, .iload_n 2, 1), (38, .bipush 96, 2), (40, .iadd, 1), (41, .iaload, 1), (42, .iastore, 1), (43, .iinc 2 1, 3), (46, .goto (-25), 3)], [(49, .aload_n 0, 1), (50, .dup, 1), (51, .getfield 217, 3), (54, .iconst 1, 1), (55, .isub, 1), (56, .putfield 217, 3), (59, .iload_n 1, 1), (60, .ireturn, 1)]]
def im_213 : List (List (Nat × Instr × Nat)) := [[(0, .iload_n 1, 1), (1, .ifCond .ge 7, 3), (4, .iload_n 1, 1), (5, .goto 8, 3), (8, .aload_n 0, 1), (9, .iload_n 1, 1), (10, .invokevirtual 328, 3), (13, .ireturn, 1)]]
def im_214 : List (List (Nat × Instr × Nat)) := [[(0, .aload_n 0, 1), (1, .iconst 0, 1), (2, .putfield 114, 3), (5, .aload_n 0, 1), (6, .getfield 217, 3), (9, .ifCond .ne 5, 3), (12, .iconst (-1), 1), (13, .ireturn, 1), (14, .aload_n 0, 1), (15, .dup, 1)], [(16, .getfield 217, 3), (19, .iconst 1, 1), (20, .isub, 1), (21, .putfield 217, 3), (24, .iconst 0, 1), (25, .istore_n 1, 1), (26, .iload_n 1, 1), (27, .bipush 96, 2), (29, .if_icmp .ge 29, 3)], [(32, .aload_n 0, 1), (33, .getfield 32, 3), (36, .iload_n 1, 1), (37, .aload_n 0, 1), (38, .getfield 56, 3), (41, .bipush 96, 2), (43, .aload_n 0, 1), (44, .getfield 217, 3), (47, .imul, 1)], [(48, .iload_n 1, 1), (49, .iadd, 1), (50, .iaload, 1), (51, .iastore, 1), (52, .iinc 1 1, 3), (55, .goto (-29), 3), (58, .aload_n 0, 1), (59, .getfield 217, 3), (62, .ireturn, 1)]]
def im_215 : List (List (Nat × Instr × Nat)) := [[(0, .bipush 6, 2), (2, .bipush 6, 2), (4, .iload_n 1, 1), (5, .imul, 1), (6, .iadd, 1), (7, .iload_n 2, 1), (8, .iadd, 1), (9, .istore 4, 2), (11, .aload_n 0, 1), (12, .iload 4, 2), (14, .iconst 0, 1), (15, .bipush 20, 2)], [(17, .aload_n 0, 1), (18, .iload 4, 2), (20, .iaload, 1), (21, .iload_n 3, 1), (22, .iadd, 1), (23, .invokestatic 156, 3), (26, .invokestatic 277, 3), (29, .iastore, 1), (30, .aload_n 0, 1), (31, .iload 4, 2)], [(33, .iaload, 1), (34, .ireturn, 1)]]
def im_216 : List (List (Nat × Instr × Nat)) := [[(0, .iload_n 1, 1), (1, .ifCond .ne 7, 3), (4, .iconst 2, 1), (5, .goto 28, 3), (8, .iconst 2, 1), (9, .iload_n 0, 1), (10, .imul, 1), (11, .iload_n 1, 1), (12, .if_icmp .ge 8, 3), (15, .bipush (-5), 2)], [(17, .goto 16, 3), (20, .iload_n 0, 1), (21, .iconst 2, 1), (22, .iload_n 1, 1), (23, .imul, 1), (24, .if_icmp .le 8, 3), (27, .bipush (-2), 2), (29, .goto 4, 3)], [(32, .iconst 4, 1), (33, .ireturn, 1)]]
def im_217 : List (List (Nat × Instr × Nat)) := [[(0, .aload_n 0, 1), (1, .iload_n 2, 1), (2, .invokevirtual 317, 3), (5, .ifCond .eq 11, 3), (8, .aload_n 0, 1), (9, .iload_n 3, 1), (10, .invokevirtual 135, 3), (13, .ifCond .ne 5, 3)], [(16, .iconst (-1), 1), (17, .ireturn, 1), (18, .aload_n 1, 1), (19, .bipush 78, 2), (21, .iload_n 2, 1), (22, .iadd, 1), (23, .iaload, 1), (24, .istore 4, 2), (26, .iload 4, 2), (28, .iload_n 3, 1), (29, .if_icmp .ne 6, 3)], [(32, .bipush (-2), 2), (34, .ireturn, 1), (35, .aload_n 1, 1), (36, .bipush 86, 2), (38, .iload_n 2, 1), (39, .iadd, 1), (40, .iaload, 1), (41, .iload_n 3, 1), (42, .invokestatic 139, 3), (45, .istore 5, 2), (47, .aload_n 0, 1)], [(48, .aload_n 0, 1), (49, .aload_n 1, 1), (50, .iload_n 2, 1), (51, .iload_n 3, 1), (52, .invokevirtual 331, 3), (55, .putfield 334, 3), (58, .aload_n 0, 1), (59, .iload 5, 2), (61, .invokestatic 165, 3)], [(64, .putfield 337, 3), (67, .bipush 42, 2), (69, .bipush 6, 2), (71, .iload 4, 2), (73, .imul, 1), (74, .iadd, 1), (75, .iload_n 3, 1), (76, .iadd, 1), (77, .istore 6, 2), (79, .bipush 42, 2)], [(81, .bipush 6, 2), (83, .iload_n 3, 1), (84, .imul, 1), (85, .iadd, 1), (86, .iload 4, 2), (88, .iadd, 1), (89, .istore 7, 2), (91, .aload_n 1, 1), (92, .iload_n 3, 1), (93, .iload 4, 2), (95, .iload 5, 2)], [(97, .ifCond .eq 8, 3), (100, .bipush (-6), 2), (102, .goto 27, 3), (105, .aload_n 1, 1), (106, .iload_n 2, 1), (107, .invokestatic 270, 3), (110, .ifCond .eq 8, 3)], [(113, .bipush (-4), 2), (115, .goto 14, 3), (118, .aload_n 0, 1), (119, .getfield 334, 3), (122, .aload_n 1, 1), (123, .iload 6, 2), (125, .iaload, 1), (126, .invokestatic 340, 3)], [(129, .invokestatic 343, 3), (132, .istore 8, 2), (134, .iload 5, 2), (136, .ifCond .ne 49, 3), (139, .aload_n 1, 1), (140, .iload_n 2, 1), (141, .invokestatic 270, 3)], [(144, .ifCond .ne 41, 3), (147, .aload_n 1, 1), (148, .iload 7, 2), (150, .aload_n 1, 1), (151, .iload 6, 2), (153, .iaload, 1), (154, .ifCond .le 10, 3), (157, .aload_n 1, 1), (158, .iload 7, 2)], [(160, .iaload, 1), (161, .goto 18, 3), (164, .sipush 9999, 3), (167, .aload_n 1, 1), (168, .iload 7, 2), (170, .iaload, 1), (171, .aload_n 0, 1), (172, .getfield 334, 3), (175, .iadd, 1)], [(176, .invokestatic 156, 3), (179, .iastore, 1), (180, .aload_n 1, 1), (181, .iload 6, 2), (183, .iconst 0, 1), (184, .iastore, 1), (185, .aload_n 1, 1), (186, .bipush 78, 2), (188, .iload_n 2, 1), (189, .iadd, 1), (190, .iload_n 3, 1), (191, .iastore, 1)], [(192, .aload_n 1, 1), (193, .bipush 86, 2), (195, .iload_n 2, 1), (196, .iadd, 1), (197, .dup2, 1), (198, .iaload, 1), (199, .iconst 1, 1), (200, .iload_n 3, 1), (201, .ishl, 1), (202, .ior, 1), (203, .iastore, 1), (204, .iload 8, 2), (206, .ireturn, 1)]]
def im_218 : List (List (Nat × Instr × Nat)) := [[(0, .aload_n 1, 1), (1, .iload_n 2, 1), (2, .invokestatic 270, 3), (5, .ifCond .ne 27, 3), (8, .aload_n 0, 1), (9, .getfield 20, 3), (12, .iload_n 2, 1), (13, .iaload, 1), (14, .iconst 1, 1), (15, .if_icmp .eq 13, 3)], [(18, .aload_n 0, 1), (19, .getfield 20, 3), (22, .iload_n 2, 1), (23, .iaload, 1), (24, .iconst 4, 1), (25, .if_icmp .ne 7, 3), (28, .iconst 1, 1), (29, .goto 4, 3)], [(32, .iconst 0, 1), (33, .ireturn, 1)]]
def im_219 : List (List (Nat × Instr × Nat)) := [[(0, .iconst 0, 1), (1, .istore_n 2, 1), (2, .iload_n 2, 1), (3, .aload_n 0, 1), (4, .getfield 125, 3), (7, .if_icmp .ge 30, 3), (10, .aload_n 1, 1), (11, .iload_n 2, 1), (12, .sipush 999, 3), (15, .aload_n 1, 1)], [(16, .iload_n 2, 1), (17, .iaload, 1), (18, .iconst 2, 1), (19, .aload_n 0, 1), (20, .getfield 13, 3), (23, .iload_n 2, 1), (24, .iaload, 1), (25, .imul, 1), (26, .iadd, 1), (27, .invokestatic 156, 3), (30, .iastore, 1), (31, .iinc 2 1, 3)], [(34, .goto (-32), 3), (37, .iconst 0, 1), (38, .istore_n 2, 1), (39, .iload_n 2, 1), (40, .aload_n 0, 1), (41, .getfield 132, 3), (44, .if_icmp .ge 68, 3), (47, .aload_n 0, 1)], [(48, .aload_n 1, 1), (49, .iload_n 2, 1), (50, .invokevirtual 347, 3), (53, .ifCond .eq 53, 3), (56, .aload_n 1, 1), (57, .bipush 78, 2), (59, .iload_n 2, 1), (60, .iadd, 1), (61, .iaload, 1), (62, .istore_n 3, 1), (63, .aload_n 1, 1)], [(64, .bipush 94, 2), (66, .dup2, 1), (67, .iaload, 1), (68, .aload_n 1, 1), (69, .iload_n 3, 1), (70, .iaload, 1), (71, .aload_n 0, 1), (72, .getfield 26, 3), (75, .iload_n 2, 1), (76, .iaload, 1), (77, .if_icmp .ge 9, 3)], [(80, .iconst 1, 1), (81, .iload_n 2, 1), (82, .ishl, 1), (83, .goto 4, 3), (86, .iconst 0, 1), (87, .ior, 1), (88, .iastore, 1), (89, .aload_n 1, 1), (90, .iload_n 3, 1), (91, .iconst 0, 1), (92, .aload_n 1, 1), (93, .iload_n 3, 1), (94, .iaload, 1), (95, .aload_n 0, 1)], [(96, .getfield 26, 3), (99, .iload_n 2, 1), (100, .iaload, 1), (101, .isub, 1), (102, .invokestatic 277, 3), (105, .iastore, 1), (106, .iinc 2 1, 3), (109, .goto (-70), 3)], [(112, .aload_n 1, 1), (113, .bipush 95, 2), (115, .dup2, 1), (116, .iaload, 1), (117, .iconst 1, 1), (118, .iadd, 1), (119, .iastore, 1), (120, .return_, 1)]]
def im_220 : List (List (Nat × Instr × Nat)) := [[(0, .aload_n 0, 1), (1, .iload_n 1, 1), (2, .iload_n 2, 1), (3, .invokevirtual 312, 3), (6, .ifCond .eq 21, 3), (9, .iload_n 3, 1), (10, .i2l, 1), (11, .ldc2_w 350, 3), (14, .ldc2_w 320, 3)], [(17, .invokestatic 128, 3), (20, .ifCond .eq 7, 3), (23, .iload_n 3, 1), (24, .ifCond .ne 5, 3), (27, .iconst (-1), 1), (28, .ireturn, 1), (29, .aload_n 0, 1), (30, .getfield 32, 3)], [(33, .iload_n 1, 1), (34, .iload_n 2, 1), (35, .iload_n 3, 1), (36, .invokestatic 343, 3), (39, .ireturn, 1)]]
def im_221 : List (List (Nat × Instr × Nat)) := [[(0, .aload_n 0, 1), (1, .iload_n 1, 1), (2, .iload_n 2, 1), (3, .invokevirtual 312, 3), (6, .ifCond .ne 5, 3), (9, .iconst (-1), 1), (10, .ireturn, 1), (11, .bipush 42, 2), (13, .bipush 6, 2), (15, .iload_n 1, 1)], [(16, .imul, 1), (17, .iadd, 1), (18, .iload_n 2, 1), (19, .iadd, 1), (20, .istore_n 3, 1), (21, .aload_n 0, 1), (22, .getfield 32, 3), (25, .iload_n 3, 1), (26, .iaload, 1), (27, .istore 4, 2), (29, .aload_n 0, 1), (30, .getfield 32, 3)], [(33, .iload_n 3, 1), (34, .iconst 0, 1), (35, .iastore, 1), (36, .iload 4, 2), (38, .ifCond .ne 8, 3), (41, .bipush (-2), 2), (43, .goto 5, 3), (46, .iload 4, 2)], [(48, .ireturn, 1)]]
def im_222 : List (List (Nat × Instr × Nat)) := [[(0, .aload_n 0, 1), (1, .iconst 0, 1), (2, .putfield 114, 3), (5, .aload_n 0, 1), (6, .invokevirtual 352, 3), (9, .aload_n 0, 1), (10, .aload_n 0, 1), (11, .aload_n 0, 1), (12, .getfield 32, 3), (15, .iload_n 1, 1)], [(16, .iload_n 2, 1), (17, .invokevirtual 355, 3), (20, .invokevirtual 358, 3), (23, .istore_n 3, 1), (24, .iload_n 3, 1), (25, .ifCond .lt 26, 3), (28, .aload_n 0, 1), (29, .iconst 0, 1), (30, .putfield 122, 3)], [(33, .aload_n 0, 1), (34, .aload_n 0, 1), (35, .getfield 334, 3), (38, .i2l, 1), (39, .invokevirtual 361, 3), (42, .aload_n 0, 1), (43, .aload_n 0, 1), (44, .getfield 337, 3), (47, .i2l, 1)], [(48, .invokevirtual 361, 3), (51, .iload_n 3, 1), (52, .ireturn, 1)]]
def im_223 : List (List (Nat × Instr × Nat)) := [[(0, .aload_n 0, 1), (1, .iconst 0, 1), (2, .putfield 114, 3), (5, .iload_n 1, 1), (6, .i2l, 1), (7, .lconst 0, 1), (8, .ldc2_w 365, 3), (11, .invokestatic 128, 3), (14, .ifCond .ne 5, 3)], [(17, .iconst (-1), 1), (18, .ireturn, 1), (19, .aload_n 0, 1), (20, .invokevirtual 352, 3), (23, .aload_n 0, 1), (24, .getfield 32, 3), (27, .bipush 94, 2), (29, .iaload, 1), (30, .istore_n 2, 1), (31, .iconst 0, 1)], [(32, .istore_n 3, 1), (33, .iload_n 3, 1), (34, .iload_n 1, 1), (35, .if_icmp .ge 17, 3), (38, .aload_n 0, 1), (39, .aload_n 0, 1), (40, .getfield 32, 3), (43, .invokevirtual 367, 3), (46, .iinc 3 1, 3)], [(49, .goto (-16), 3), (52, .aload_n 0, 1), (53, .iconst 0, 1), (54, .putfield 122, 3), (57, .aload_n 0, 1), (58, .aload_n 0, 1), (59, .getfield 32, 3), (62, .bipush 94, 2)], [(64, .iaload, 1), (65, .iload_n 2, 1), (66, .iconst (-1), 1), (67, .ixor, 1), (68, .iand, 1), (69, .i2l, 1), (70, .invokevirtual 361, 3), (73, .aload_n 0, 1), (74, .aload_n 0, 1), (75, .aload_n 0, 1), (76, .getfield 32, 3), (79, .invokevirtual 324, 3)], [(82, .i2l, 1), (83, .invokevirtual 361, 3), (86, .aload_n 0, 1), (87, .aload_n 0, 1), (88, .getfield 32, 3), (91, .bipush 94, 2), (93, .iaload, 1), (94, .iload_n 2, 1), (95, .iconst (-1), 1)], [(96, .ixor, 1), (97, .iand, 1), (98, .invokestatic 265, 3), (101, .invokevirtual 328, 3), (104, .ireturn, 1)]]
def im_224 : List (List (Nat × Instr × Nat)) := [[(0, .aload_n 0, 1), (1, .iconst 0, 1), (2, .putfield 114, 3), (5, .aload_n 0, 1), (6, .invokevirtual 352, 3), (9, .aload_n 0, 1), (10, .aload_n 0, 1), (11, .iload_n 1, 1), (12, .iload_n 2, 1), (13, .iload_n 3, 1), (14, .invokevirtual 371, 3)], [(17, .invokevirtual 358, 3), (20, .ireturn, 1)]]
def im_225 : List (List (Nat × Instr × Nat)) := [[(0, .aload_n 0, 1), (1, .iconst 0, 1), (2, .putfield 114, 3), (5, .aload_n 0, 1), (6, .invokevirtual 352, 3), (9, .aload_n 0, 1), (10, .aload_n 0, 1), (11, .iload_n 1, 1), (12, .iload_n 2, 1), (13, .invokevirtual 374, 3)], [(16, .invokevirtual 358, 3), (19, .ireturn, 1)]]
def im_226 : List (List (Nat × Instr × Nat)) := [[(0, .aload_n 0, 1), (1, .getfield 377, 3), (4, .istore_n 1, 1), (5, .aload_n 0, 1), (6, .getfield 59, 3), (9, .iload_n 1, 1), (10, .aload_n 0, 1), (11, .ldc_w 380, 3), (14, .invokevirtual 238, 3)], [(17, .iastore, 1), (18, .aload_n 0, 1), (19, .dup, 1), (20, .getfield 377, 3), (23, .iconst 1, 1), (24, .iadd, 1), (25, .putfield 377, 3), (28, .aload_n 0, 1), (29, .getfield 59, 3)], [(32, .iload_n 1, 1), (33, .iaload, 1), (34, .ifCond .ge 5, 3), (37, .iconst 0, 1), (38, .ireturn, 1), (39, .aload_n 0, 1), (40, .getfield 62, 3), (43, .iload_n 1, 1), (44, .aload_n 0, 1), (45, .iconst 1, 1), (46, .invokevirtual 193, 3)], [(49, .iastore, 1), (50, .aload_n 0, 1), (51, .getfield 62, 3), (54, .iload_n 1, 1), (55, .iaload, 1), (56, .ifCond .lt 13, 3), (59, .aload_n 0, 1), (60, .getfield 59, 3), (63, .iload_n 1, 1)], [(64, .iaload, 1), (65, .iconst 1, 1), (66, .if_icmp .ne 18, 3), (69, .aload_n 0, 1), (70, .getfield 62, 3), (73, .iload_n 1, 1), (74, .iaload, 1), (75, .ifCond .lt 7, 3), (78, .iconst 1, 1), (79, .goto 4, 3)], [(82, .iconst 0, 1), (83, .ireturn, 1), (84, .aload_n 0, 1), (85, .getfield 65, 3), (88, .iload_n 1, 1), (89, .aload_n 0, 1), (90, .iconst 1, 1), (91, .invokevirtual 193, 3), (94, .iastore, 1), (95, .aload_n 0, 1)], [(96, .getfield 65, 3), (99, .iload_n 1, 1), (100, .iaload, 1), (101, .ifCond .lt 13, 3), (104, .aload_n 0, 1), (105, .getfield 59, 3), (108, .iload_n 1, 1), (109, .iaload, 1), (110, .iconst 3, 1), (111, .if_icmp .ge 18, 3)], [(114, .aload_n 0, 1), (115, .getfield 65, 3), (118, .iload_n 1, 1), (119, .iaload, 1), (120, .ifCond .lt 7, 3), (123, .iconst 1, 1), (124, .goto 4, 3), (127, .iconst 0, 1)], [(128, .ireturn, 1), (129, .aload_n 0, 1), (130, .getfield 68, 3), (133, .iload_n 1, 1), (134, .aload_n 0, 1), (135, .iconst 1, 1), (136, .bipush 9, 2), (138, .invokevirtual 190, 3), (141, .iastore, 1), (142, .aload_n 0, 1), (143, .getfield 68, 3)], [(146, .iload_n 1, 1), (147, .iaload, 1), (148, .ifCond .lt 7, 3), (151, .iconst 1, 1), (152, .goto 4, 3), (155, .iconst 0, 1), (156, .ireturn, 1)]]
def im_227 : List (List (Nat × Instr × Nat)) := [[(0, .aload_n 0, 1), (1, .getfield 62, 3), (4, .iload_n 1, 1), (5, .iaload, 1), (6, .istore_n 2, 1), (7, .aload_n 0, 1), (8, .getfield 65, 3), (11, .iload_n 1, 1), (12, .iaload, 1), (13, .istore_n 3, 1), (14, .aload_n 0, 1), (15, .getfield 59, 3)], [(18, .iload_n 1, 1), (19, .iaload, 1), (20, .tableswitch 112 0 3 #[32, 51, 76, 91], 32)], [], [(52, .aload_n 0, 1), (53, .aload_n 0, 1), (54, .getfield 32, 3), (57, .iload_n 2, 1), (58, .iload_n 3, 1), (59, .invokevirtual 355, 3), (62, .ifCond .lt 7, 3)], [(65, .iconst 1, 1), (66, .goto 4, 3), (69, .iconst 0, 1), (70, .ireturn, 1), (71, .iconst 0, 1), (72, .istore 4, 2), (74, .iload 4, 2), (76, .iload_n 2, 1), (77, .if_icmp .ge 17, 3)], [(80, .aload_n 0, 1), (81, .aload_n 0, 1), (82, .getfield 32, 3), (85, .invokevirtual 367, 3), (88, .iinc 4 1, 3), (91, .goto (-17), 3), (94, .iconst 1, 1), (95, .ireturn, 1)], [(96, .aload_n 0, 1), (97, .iload_n 2, 1), (98, .iload_n 3, 1), (99, .invokevirtual 374, 3), (102, .ifCond .lt 7, 3), (105, .iconst 1, 1), (106, .goto 4, 3), (109, .iconst 0, 1), (110, .ireturn, 1), (111, .aload_n 0, 1)], [(112, .iload_n 2, 1), (113, .iload_n 3, 1), (114, .aload_n 0, 1), (115, .getfield 68, 3), (118, .iload_n 1, 1), (119, .iaload, 1), (120, .invokevirtual 371, 3), (123, .ifCond .lt 7, 3), (126, .iconst 1, 1), (127, .goto 4, 3)], [(130, .iconst 0, 1), (131, .ireturn, 1), (132, .aload_n 0, 1), (133, .iload_n 2, 1), (134, .iload_n 3, 1), (135, .aload_n 0, 1), (136, .getfield 68, 3), (139, .iload_n 1, 1), (140, .iaload, 1), (141, .ineg, 1), (142, .invokevirtual 371, 3)], [(145, .ifCond .lt 7, 3), (148, .iconst 1, 1), (149, .goto 4, 3), (152, .iconst 0, 1), (153, .ireturn, 1)]]
def im_228 : List (List (Nat × Instr × Nat)) := [[(0, .aload_n 0, 1), (1, .iconst 0, 1), (2, .putfield 114, 3), (5, .aload_n 0, 1), (6, .bipush 60, 2), (8, .invokevirtual 197, 3), (11, .istore_n 1, 1), (12, .aload_n 0, 1), (13, .iconst 0, 1), (14, .putfield 377, 3)], [(17, .iconst 1, 1), (18, .istore_n 2, 1), (19, .iload_n 2, 1), (20, .ifCond .eq 22, 3), (23, .aload_n 0, 1), (24, .getfield 150, 3), (27, .aload_n 0, 1), (28, .getfield 162, 3), (31, .if_icmp .ge 11, 3)], [(34, .aload_n 0, 1), (35, .invokevirtual 382, 3), (38, .istore_n 2, 1), (39, .goto (-20), 3), (42, .aload_n 0, 1), (43, .iload_n 1, 1), (44, .bipush 60, 2), (46, .iload_n 2, 1), (47, .invokevirtual 206, 3)], [(50, .istore_n 3, 1), (51, .iload_n 3, 1), (52, .ifCond .ge 5, 3), (55, .iload_n 3, 1), (56, .ireturn, 1), (57, .aload_n 0, 1), (58, .invokevirtual 352, 3), (61, .iconst 0, 1), (62, .istore 4, 2)], [(64, .iload 4, 2), (66, .aload_n 0, 1), (67, .getfield 377, 3), (70, .if_icmp .ge 18, 3), (73, .aload_n 0, 1), (74, .iload 4, 2), (76, .invokevirtual 385, 3), (79, .ifCond .eq 9, 3)], [(82, .iinc 4 1, 3), (85, .goto (-21), 3), (88, .aload_n 0, 1), (89, .iconst 0, 1), (90, .putfield 122, 3), (93, .aload_n 0, 1), (94, .iload 4, 2)], [(96, .aload_n 0, 1), (97, .getfield 377, 3), (100, .if_icmp .ge 7, 3), (103, .iconst 1, 1), (104, .goto 4, 3), (107, .iconst 0, 1), (108, .invokestatic 165, 3), (111, .i2l, 1)], [(112, .invokevirtual 361, 3), (115, .aload_n 0, 1), (116, .aload_n 0, 1), (117, .getfield 32, 3), (120, .bipush 94, 2), (122, .iaload, 1), (123, .invokestatic 265, 3), (126, .i2l, 1), (127, .invokevirtual 361, 3)], [(130, .iload 4, 2), (132, .ifCond .le 12, 3), (135, .aload_n 0, 1), (136, .iload 4, 2), (138, .invokevirtual 328, 3), (141, .goto 4, 3)], [(144, .iconst 0, 1), (145, .ireturn, 1)]]
def im_229 : List (List (Nat × Instr × Nat)) := [[(0, .iconst 0, 1), (1, .istore_n 1, 1), (2, .iload_n 1, 1), (3, .bipush 96, 2), (5, .if_icmp .ge 21, 3), (8, .aload_n 0, 1), (9, .getfield 35, 3), (12, .iload_n 1, 1), (13, .aload_n 0, 1), (14, .getfield 32, 3)], [(17, .iload_n 1, 1), (18, .iaload, 1), (19, .iastore, 1), (20, .iinc 1 1, 3), (23, .goto (-21), 3), (26, .return_, 1)]]
def im_230 : List (List (Nat × Instr × Nat)) := [[(0, .aload_n 0, 1), (1, .iconst 0, 1), (2, .putfield 114, 3), (5, .aload_n 0, 1), (6, .iload_n 1, 1), (7, .invokevirtual 317, 3), (10, .ifCond .eq 24, 3), (13, .aload_n 0, 1), (14, .iload_n 2, 1), (15, .invokevirtual 135, 3)], [(18, .ifCond .eq 16, 3), (21, .aload_n 0, 1), (22, .aload_n 0, 1), (23, .getfield 32, 3), (26, .iload_n 1, 1), (27, .iload_n 2, 1), (28, .invokevirtual 331, 3), (31, .goto 4, 3)], [(34, .iconst (-1), 1), (35, .ireturn, 1)]]
def im_231 : List (List (Nat × Instr × Nat)) := [[(0, .aload_n 0, 1), (1, .iconst 0, 1), (2, .putfield 114, 3), (5, .aload_n 0, 1), (6, .iload_n 1, 1), (7, .invokevirtual 317, 3), (10, .ifCond .ne 5, 3), (13, .iconst (-1), 1), (14, .ireturn, 1), (15, .bipush (-2), 2)], [(17, .istore_n 2, 1), (18, .iconst (-1), 1), (19, .istore_n 3, 1), (20, .ldc_w 388, 3), (23, .istore 4, 2), (25, .iconst 0, 1), (26, .istore 5, 2), (28, .iload 5, 2), (30, .aload_n 0, 1), (31, .getfield 125, 3)], [(34, .if_icmp .ge 65, 3), (37, .iload 5, 2), (39, .aload_n 0, 1), (40, .getfield 32, 3), (43, .bipush 78, 2), (45, .iload_n 1, 1), (46, .iadd, 1), (47, .iaload, 1)], [(48, .if_icmp .eq 45, 3), (51, .aload_n 0, 1), (52, .aload_n 0, 1), (53, .getfield 32, 3), (56, .iload_n 1, 1), (57, .iload 5, 2), (59, .invokevirtual 331, 3), (62, .istore 6, 2)], [(64, .iload 6, 2), (66, .iload_n 3, 1), (67, .if_icmp .le 8, 3), (70, .iload 5, 2), (72, .goto 4, 3), (75, .iload_n 2, 1), (76, .istore_n 2, 1), (77, .iload_n 3, 1), (78, .iload 6, 2)], [(80, .invokestatic 277, 3), (83, .istore_n 3, 1), (84, .iload 4, 2), (86, .iload 6, 2), (88, .invokestatic 156, 3), (91, .istore 4, 2), (93, .iinc 5 1, 3)], [(96, .goto (-68), 3), (99, .iload_n 2, 1), (100, .ifCond .lt 21, 3), (103, .aload_n 0, 1), (104, .iconst 0, 1), (105, .putfield 122, 3), (108, .aload_n 0, 1), (109, .iload_n 3, 1), (110, .i2l, 1), (111, .invokevirtual 361, 3)], [(114, .aload_n 0, 1), (115, .iload 4, 2), (117, .i2l, 1), (118, .invokevirtual 361, 3), (121, .iload_n 2, 1), (122, .ireturn, 1)]]
def im_232 : List (List (Nat × Instr × Nat)) := [[(0, .aload_n 0, 1), (1, .iconst 0, 1), (2, .putfield 114, 3), (5, .aload_n 0, 1), (6, .iload_n 1, 1), (7, .iload_n 2, 1), (8, .invokevirtual 312, 3), (11, .ifCond .ne 5, 3), (14, .iconst (-1), 1), (15, .ireturn, 1)], [(16, .bipush (-2), 2), (18, .istore_n 3, 1), (19, .iconst (-1), 1), (20, .istore 4, 2), (22, .iconst 0, 1), (23, .istore 5, 2), (25, .iconst 0, 1), (26, .istore 6, 2), (28, .iload 6, 2), (30, .aload_n 0, 1), (31, .getfield 132, 3)], [(34, .if_icmp .ge 83, 3), (37, .aload_n 0, 1), (38, .getfield 32, 3), (41, .bipush 78, 2), (43, .iload 6, 2), (45, .iadd, 1), (46, .iaload, 1), (47, .iload_n 1, 1)], [(48, .if_icmp .ne 63, 3), (51, .aload_n 0, 1), (52, .invokevirtual 389, 3), (55, .aload_n 0, 1), (56, .aload_n 0, 1), (57, .getfield 35, 3), (60, .iload 6, 2), (62, .iload_n 2, 1), (63, .invokevirtual 355, 3)], [(66, .istore 7, 2), (68, .iload 7, 2), (70, .iload 4, 2), (72, .if_icmp .gt 26, 3), (75, .iload 7, 2), (77, .iload 4, 2), (79, .if_icmp .ne 32, 3)], [(82, .aload_n 0, 1), (83, .getfield 23, 3), (86, .iload 6, 2), (88, .iaload, 1), (89, .aload_n 0, 1), (90, .getfield 23, 3), (93, .iload_n 3, 1), (94, .iaload, 1), (95, .if_icmp .ge 16, 3)], [(98, .iload 6, 2), (100, .istore_n 3, 1), (101, .iload 7, 2), (103, .istore 4, 2), (105, .aload_n 0, 1), (106, .getfield 334, 3), (109, .istore 5, 2), (111, .iinc 6 1, 3)], [(114, .goto (-86), 3), (117, .iload_n 3, 1), (118, .ifCond .lt 22, 3), (121, .aload_n 0, 1), (122, .iconst 0, 1), (123, .putfield 122, 3), (126, .aload_n 0, 1), (127, .iload 4, 2)], [(129, .i2l, 1), (130, .invokevirtual 361, 3), (133, .aload_n 0, 1), (134, .iload 5, 2), (136, .i2l, 1), (137, .invokevirtual 361, 3), (140, .iload_n 3, 1), (141, .ireturn, 1)]]
def im_233 : List (List (Nat × Instr × Nat)) := [[(0, .iload_n 1, 1), (1, .iload_n 2, 1), (2, .if_icmp .ne 121, 3), (5, .aload_n 0, 1), (6, .invokevirtual 389, 3), (9, .iconst 0, 1), (10, .istore 6, 2), (12, .iconst 0, 1), (13, .istore 7, 2), (15, .iload 7, 2)], [(17, .iload_n 2, 1), (18, .if_icmp .ge 44, 3), (21, .aload_n 0, 1), (22, .aload_n 0, 1), (23, .getfield 35, 3), (26, .aload_n 0, 1), (27, .getfield 71, 3), (30, .iload 7, 2)], [(32, .iaload, 1), (33, .iload 5, 2), (35, .invokevirtual 355, 3), (38, .pop, 1), (39, .iload 6, 2), (41, .aload_n 0, 1), (42, .getfield 23, 3), (45, .aload_n 0, 1), (46, .getfield 71, 3)], [(49, .iload 7, 2), (51, .iaload, 1), (52, .iaload, 1), (53, .iadd, 1), (54, .istore 6, 2), (56, .iinc 7 1, 3), (59, .goto (-44), 3), (62, .aload_n 0, 1), (63, .getfield 35, 3)], [(66, .iload 5, 2), (68, .iload 4, 2), (70, .invokestatic 143, 3), (73, .bipush 15, 2), (75, .if_icmp .lt 47, 3), (78, .iload 6, 2)], [(80, .aload_n 0, 1), (81, .getfield 392, 3), (84, .if_icmp .ge 38, 3), (87, .aload_n 0, 1), (88, .iload 6, 2), (90, .putfield 392, 3), (93, .iconst 0, 1), (94, .istore 7, 2)], [(96, .iload 7, 2), (98, .iload_n 2, 1), (99, .if_icmp .ge 23, 3), (102, .aload_n 0, 1), (103, .getfield 74, 3), (106, .iload 7, 2), (108, .aload_n 0, 1), (109, .getfield 71, 3)], [(112, .iload 7, 2), (114, .iaload, 1), (115, .iastore, 1), (116, .iinc 7 1, 3), (119, .goto (-23), 3), (122, .return_, 1), (123, .iconst 0, 1), (124, .istore 6, 2), (126, .iload 6, 2)], [(128, .aload_n 0, 1), (129, .getfield 132, 3), (132, .if_icmp .ge 59, 3), (135, .aload_n 0, 1), (136, .getfield 32, 3), (139, .bipush 78, 2), (141, .iload 6, 2), (143, .iadd, 1)], [(144, .iaload, 1), (145, .iload 4, 2), (147, .if_icmp .ne 38, 3), (150, .iload_n 3, 1), (151, .iload 6, 2), (153, .invokestatic 139, 3), (156, .ifCond .ne 29, 3), (159, .aload_n 0, 1)], [(160, .getfield 71, 3), (163, .iload_n 1, 1), (164, .iload 6, 2), (166, .iastore, 1), (167, .aload_n 0, 1), (168, .iload_n 1, 1), (169, .iconst 1, 1), (170, .iadd, 1), (171, .iload_n 2, 1), (172, .iload_n 3, 1), (173, .iconst 1, 1), (174, .iload 6, 2)], [(176, .ishl, 1), (177, .ior, 1), (178, .iload 4, 2), (180, .iload 5, 2), (182, .invokevirtual 395, 3), (185, .iinc 6 1, 3), (188, .goto (-62), 3), (191, .return_, 1)]]
def im_234 : List (List (Nat × Instr × Nat)) := [[(0, .aload_n 0, 1), (1, .iconst 0, 1), (2, .putfield 114, 3), (5, .aload_n 0, 1), (6, .iload_n 1, 1), (7, .iload_n 2, 1), (8, .invokevirtual 312, 3), (11, .ifCond .ne 5, 3), (14, .iconst (-1), 1), (15, .ireturn, 1)], [(16, .iconst 0, 1), (17, .istore_n 3, 1), (18, .iload_n 3, 1), (19, .iconst 4, 1), (20, .if_icmp .gt 69, 3), (23, .aload_n 0, 1), (24, .ldc_w 388, 3), (27, .putfield 392, 3), (30, .aload_n 0, 1), (31, .iconst 0, 1)], [(32, .iload_n 3, 1), (33, .iconst 0, 1), (34, .iload_n 1, 1), (35, .iload_n 2, 1), (36, .invokevirtual 395, 3), (39, .aload_n 0, 1), (40, .getfield 392, 3), (43, .ldc_w 388, 3), (46, .if_icmp .ge 37, 3)], [(49, .aload_n 0, 1), (50, .iconst 0, 1), (51, .putfield 122, 3), (54, .iconst 0, 1), (55, .istore 4, 2), (57, .iload 4, 2), (59, .iload_n 3, 1), (60, .if_icmp .ge 21, 3), (63, .aload_n 0, 1)], [(64, .aload_n 0, 1), (65, .getfield 74, 3), (68, .iload 4, 2), (70, .iaload, 1), (71, .i2l, 1), (72, .invokevirtual 361, 3), (75, .iinc 4 1, 3), (78, .goto (-21), 3)], [(81, .iload_n 3, 1), (82, .ireturn, 1), (83, .iinc 3 1, 3), (86, .goto (-68), 3), (89, .bipush (-2), 2), (91, .ireturn, 1)]]
def im_235 : List (List (Nat × Instr × Nat)) := [[(0, .aload_n 0, 1), (1, .iconst 0, 1), (2, .putfield 114, 3), (5, .aload_n 0, 1), (6, .iload_n 1, 1), (7, .invokevirtual 317, 3), (10, .ifCond .ne 5, 3), (13, .iconst (-1), 1), (14, .ireturn, 1), (15, .iconst 0, 1)], [(16, .istore_n 2, 1), (17, .iconst 0, 1), (18, .istore_n 3, 1), (19, .iload_n 3, 1), (20, .aload_n 0, 1), (21, .getfield 125, 3), (24, .if_icmp .ge 121, 3), (27, .aload_n 0, 1), (28, .getfield 32, 3), (31, .bipush 86, 2)], [(33, .iload_n 1, 1), (34, .iadd, 1), (35, .iaload, 1), (36, .iload_n 3, 1), (37, .invokestatic 139, 3), (40, .ifCond .ne 7, 3), (43, .iconst 1, 1), (44, .goto 4, 3), (47, .iconst 0, 1)], [(48, .istore 4, 2), (50, .iconst 0, 1), (51, .istore 5, 2), (53, .iload 5, 2), (55, .aload_n 0, 1), (56, .getfield 125, 3), (59, .if_icmp .ge 65, 3), (62, .iload 4, 2)], [(64, .ifCond .eq 51, 3), (67, .aload_n 0, 1), (68, .getfield 32, 3), (71, .bipush 86, 2), (73, .iload_n 1, 1), (74, .iadd, 1), (75, .iaload, 1), (76, .iload 5, 2), (78, .invokestatic 139, 3)], [(81, .ifCond .eq 30, 3), (84, .iload 5, 2), (86, .aload_n 0, 1), (87, .getfield 32, 3), (90, .bipush 78, 2), (92, .iload_n 1, 1), (93, .iadd, 1), (94, .iaload, 1), (95, .if_icmp .eq 16, 3)], [(98, .aload_n 0, 1), (99, .getfield 32, 3), (102, .iload_n 3, 1), (103, .iload 5, 2), (105, .invokestatic 280, 3), (108, .ifCond .ne 7, 3), (111, .iconst 1, 1)], [(112, .goto 4, 3), (115, .iconst 0, 1), (116, .istore 4, 2), (118, .iinc 5 1, 3), (121, .goto (-68), 3), (124, .iload_n 2, 1), (125, .iload 4, 2), (127, .ifCond .eq 9, 3)], [(130, .iconst 1, 1), (131, .iload_n 3, 1), (132, .ishl, 1), (133, .goto 4, 3), (136, .iconst 0, 1), (137, .ior, 1), (138, .istore_n 2, 1), (139, .iinc 3 1, 3), (142, .goto (-123), 3)], [(145, .aload_n 0, 1), (146, .iconst 0, 1), (147, .putfield 122, 3), (150, .aload_n 0, 1), (151, .iload_n 2, 1), (152, .invokestatic 265, 3), (155, .i2l, 1), (156, .invokevirtual 361, 3), (159, .iload_n 2, 1)], [(160, .ireturn, 1)]]
def im_236 : List (List (Nat × Instr × Nat)) := [[(0, .aload_n 0, 1), (1, .iconst 0, 1), (2, .putfield 114, 3), (5, .iconst 0, 1), (6, .istore_n 1, 1), (7, .iconst 0, 1), (8, .istore_n 2, 1), (9, .iconst 0, 1), (10, .istore_n 3, 1), (11, .iconst 0, 1), (12, .istore 4, 2), (14, .iconst 0, 1), (15, .istore 5, 2)], [(17, .iload 5, 2), (19, .aload_n 0, 1), (20, .getfield 132, 3), (23, .if_icmp .ge 151, 3), (26, .iload 5, 2), (28, .iconst 1, 1), (29, .iadd, 1), (30, .istore 6, 2)], [(32, .iload 6, 2), (34, .aload_n 0, 1), (35, .getfield 132, 3), (38, .if_icmp .ge 130, 3), (41, .aload_n 0, 1), (42, .getfield 32, 3), (45, .bipush 78, 2), (47, .iload 5, 2)], [(49, .iadd, 1), (50, .iaload, 1), (51, .istore 7, 2), (53, .aload_n 0, 1), (54, .getfield 32, 3), (57, .bipush 78, 2), (59, .iload 6, 2), (61, .iadd, 1), (62, .iaload, 1), (63, .istore 8, 2)], [(65, .aload_n 0, 1), (66, .aload_n 0, 1), (67, .getfield 32, 3), (70, .iload 6, 2), (72, .iload 7, 2), (74, .invokevirtual 331, 3), (77, .aload_n 0, 1), (78, .aload_n 0, 1), (79, .getfield 32, 3)], [(82, .iload 5, 2), (84, .iload 7, 2), (86, .invokevirtual 331, 3), (89, .isub, 1), (90, .istore 9, 2), (92, .aload_n 0, 1), (93, .aload_n 0, 1), (94, .getfield 32, 3)], [(97, .iload 5, 2), (99, .iload 8, 2), (101, .invokevirtual 331, 3), (104, .aload_n 0, 1), (105, .aload_n 0, 1), (106, .getfield 32, 3), (109, .iload 6, 2), (111, .iload 8, 2)], [(113, .invokevirtual 331, 3), (116, .isub, 1), (117, .istore 10, 2), (119, .iload 7, 2), (121, .iload 8, 2), (123, .if_icmp .eq 39, 3), (126, .iload 9, 2)], [(128, .ifCond .le 34, 3), (131, .iload 10, 2), (133, .ifCond .le 29, 3), (136, .iinc 1 1, 3), (139, .iload 9, 2), (141, .iload 10, 2), (143, .iadd, 1)], [(144, .iload 4, 2), (146, .if_icmp .le 16, 3), (149, .iload 9, 2), (151, .iload 10, 2), (153, .iadd, 1), (154, .istore 4, 2), (156, .iload 5, 2), (158, .istore_n 2, 1), (159, .iload 6, 2)], [(161, .istore_n 3, 1), (162, .iinc 6 1, 3), (165, .goto (-133), 3), (168, .iinc 5 1, 3), (171, .goto (-154), 3), (174, .aload_n 0, 1), (175, .iconst 0, 1)], [(176, .putfield 122, 3), (179, .iload_n 1, 1), (180, .ifCond .le 22, 3), (183, .aload_n 0, 1), (184, .iload_n 2, 1), (185, .i2l, 1), (186, .invokevirtual 361, 3), (189, .aload_n 0, 1), (190, .iload_n 3, 1), (191, .i2l, 1)], [(192, .invokevirtual 361, 3), (195, .aload_n 0, 1), (196, .iload 4, 2), (198, .i2l, 1), (199, .invokevirtual 361, 3), (202, .iload_n 1, 1), (203, .ireturn, 1)]]
def im_237 : List (List (Nat × Instr × Nat)) := [[(0, .iconst 0, 1), (1, .istore_n 2, 1), (2, .iload_n 2, 1), (3, .aload_n 0, 1), (4, .getfield 125, 3), (7, .if_icmp .ge 27, 3), (10, .aload_n 0, 1), (11, .getfield 77, 3), (14, .iload_n 2, 1), (15, .iload_n 2, 1)], [(16, .iload_n 1, 1), (17, .if_icmp .ne 7, 3), (20, .iconst 0, 1), (21, .goto 6, 3), (24, .ldc_w 388, 3), (27, .iastore, 1), (28, .iinc 2 1, 3), (31, .goto (-29), 3)], [(34, .iconst 0, 1), (35, .istore_n 2, 1), (36, .iload_n 2, 1), (37, .aload_n 0, 1), (38, .getfield 125, 3), (41, .if_icmp .ge 96, 3), (44, .iconst 0, 1), (45, .istore_n 3, 1), (46, .iload_n 3, 1), (47, .aload_n 0, 1)], [(48, .getfield 125, 3), (51, .if_icmp .ge 80, 3), (54, .iconst 0, 1), (55, .istore 4, 2), (57, .iload 4, 2), (59, .aload_n 0, 1), (60, .getfield 125, 3), (63, .if_icmp .ge 62, 3)], [(66, .aload_n 0, 1), (67, .getfield 29, 3), (70, .bipush 6, 2), (72, .iload_n 3, 1), (73, .imul, 1), (74, .iload 4, 2), (76, .iadd, 1), (77, .iaload, 1), (78, .istore 5, 2)], [(80, .aload_n 0, 1), (81, .getfield 77, 3), (84, .iload_n 3, 1), (85, .iload 5, 2), (87, .ifCond .le 25, 3), (90, .aload_n 0, 1), (91, .getfield 77, 3), (94, .iload_n 3, 1), (95, .iaload, 1)], [(96, .aload_n 0, 1), (97, .getfield 77, 3), (100, .iload 4, 2), (102, .iaload, 1), (103, .iload 5, 2), (105, .iadd, 1), (106, .invokestatic 156, 3), (109, .goto 9, 3)], [(112, .aload_n 0, 1), (113, .getfield 77, 3), (116, .iload_n 3, 1), (117, .iaload, 1), (118, .iastore, 1), (119, .iinc 4 1, 3), (122, .goto (-65), 3), (125, .iinc 3 1, 3)], [(128, .goto (-82), 3), (131, .iinc 2 1, 3), (134, .goto (-98), 3), (137, .return_, 1)]]
def im_238 : List (List (Nat × Instr × Nat)) := [[(0, .aload_n 0, 1), (1, .iconst 0, 1), (2, .putfield 114, 3), (5, .aload_n 0, 1), (6, .iload_n 1, 1), (7, .invokevirtual 135, 3), (10, .ifCond .eq 11, 3), (13, .aload_n 0, 1), (14, .iload_n 2, 1), (15, .invokevirtual 135, 3)], [(18, .ifCond .ne 5, 3), (21, .iconst (-1), 1), (22, .ireturn, 1), (23, .aload_n 0, 1), (24, .iload_n 2, 1), (25, .invokevirtual 399, 3), (28, .aload_n 0, 1), (29, .getfield 77, 3)], [(32, .iload_n 1, 1), (33, .iaload, 1), (34, .ldc_w 388, 3), (37, .if_icmp .lt 6, 3), (40, .bipush (-2), 2), (42, .ireturn, 1), (43, .aload_n 0, 1), (44, .iconst 0, 1), (45, .putfield 122, 3)], [(48, .iload_n 1, 1), (49, .istore_n 3, 1), (50, .aload_n 0, 1), (51, .iload_n 3, 1), (52, .i2l, 1), (53, .invokevirtual 361, 3), (56, .iload_n 3, 1), (57, .iload_n 2, 1), (58, .if_icmp .eq 88, 3), (61, .iconst (-1), 1), (62, .istore 4, 2)], [(64, .iconst 0, 1), (65, .istore 5, 2), (67, .iload 5, 2), (69, .aload_n 0, 1), (70, .getfield 125, 3), (73, .if_icmp .ge 61, 3), (76, .iload 4, 2), (78, .ifCond .ge 56, 3)], [(81, .aload_n 0, 1), (82, .getfield 29, 3), (85, .bipush 6, 2), (87, .iload_n 3, 1), (88, .imul, 1), (89, .iload 5, 2), (91, .iadd, 1), (92, .iaload, 1), (93, .istore 6, 2), (95, .iload 6, 2)], [(97, .ifCond .le 27, 3), (100, .aload_n 0, 1), (101, .getfield 77, 3), (104, .iload 5, 2), (106, .iaload, 1), (107, .iload 6, 2), (109, .iadd, 1), (110, .aload_n 0, 1), (111, .getfield 77, 3)], [(114, .iload_n 3, 1), (115, .iaload, 1), (116, .if_icmp .ne 8, 3), (119, .iload 5, 2), (121, .goto 5, 3), (124, .iload 4, 2), (126, .istore 4, 2)], [(128, .iinc 5 1, 3), (131, .goto (-64), 3), (134, .iload 4, 2), (136, .istore_n 3, 1), (137, .aload_n 0, 1), (138, .iload_n 3, 1), (139, .i2l, 1), (140, .invokevirtual 361, 3), (143, .goto (-87), 3)], [(146, .aload_n 0, 1), (147, .getfield 77, 3), (150, .iload_n 1, 1), (151, .iaload, 1), (152, .ireturn, 1)]]
def im_239 : List (List (Nat × Instr × Nat)) := [[(0, .aload_n 0, 1), (1, .iconst 0, 1), (2, .putfield 114, 3), (5, .aload_n 0, 1), (6, .iload_n 1, 1), (7, .invokevirtual 135, 3), (10, .ifCond .eq 36, 3), (13, .aload_n 0, 1), (14, .iload_n 2, 1), (15, .invokevirtual 135, 3)], [(18, .ifCond .eq 28, 3), (21, .iload_n 3, 1), (22, .i2l, 1), (23, .lconst 0, 1), (24, .ldc2_w 320, 3), (27, .invokestatic 128, 3), (30, .ifCond .eq 16, 3)], [(33, .iload 4, 2), (35, .i2l, 1), (36, .lconst 0, 1), (37, .ldc2_w 402, 3), (40, .invokestatic 128, 3), (43, .ifCond .ne 5, 3), (46, .iconst (-1), 1), (47, .ireturn, 1)], [(48, .iconst 0, 1), (49, .istore 5, 2), (51, .iload 5, 2), (53, .sipush 600, 3), (56, .if_icmp .ge 17, 3), (59, .aload_n 0, 1), (60, .getfield 80, 3), (63, .iload 5, 2)], [(65, .iconst (-1), 1), (66, .iastore, 1), (67, .iinc 5 1, 3), (70, .goto (-19), 3), (73, .aload_n 0, 1), (74, .getfield 80, 3), (77, .iload_n 1, 1), (78, .iload 4, 2)], [(80, .iastore, 1), (81, .iconst 0, 1), (82, .istore 5, 2), (84, .iload 5, 2), (86, .bipush 99, 2), (88, .if_icmp .gt 162, 3), (91, .aload_n 0, 1), (92, .getfield 80, 3), (95, .bipush 6, 2)], [(97, .iload 5, 2), (99, .imul, 1), (100, .iload_n 2, 1), (101, .iadd, 1), (102, .iaload, 1), (103, .ifCond .lt 6, 3), (106, .iload 5, 2), (108, .ireturn, 1), (109, .iconst 0, 1), (110, .istore 6, 2)], [(112, .iload 6, 2), (114, .aload_n 0, 1), (115, .getfield 125, 3), (118, .if_icmp .ge 126, 3), (121, .aload_n 0, 1), (122, .getfield 80, 3), (125, .bipush 6, 2), (127, .iload 5, 2)], [(129, .imul, 1), (130, .iload 6, 2), (132, .iadd, 1), (133, .iaload, 1), (134, .istore 7, 2), (136, .iconst 0, 1), (137, .istore 8, 2), (139, .iload 8, 2), (141, .aload_n 0, 1), (142, .getfield 125, 3)], [(145, .if_icmp .ge 93, 3), (148, .iload 7, 2), (150, .ifCond .lt 88, 3), (153, .aload_n 0, 1), (154, .getfield 29, 3), (157, .bipush 6, 2), (159, .iload 6, 2)], [(161, .imul, 1), (162, .iload 8, 2), (164, .iadd, 1), (165, .iaload, 1), (166, .istore 9, 2), (168, .iload 9, 2), (170, .ifCond .le 62, 3), (173, .iload 5, 2), (175, .iload 9, 2)], [(177, .iadd, 1), (178, .bipush 99, 2), (180, .if_icmp .gt 52, 3), (183, .iload 7, 2), (185, .iload_n 3, 1), (186, .iload 9, 2), (188, .imul, 1), (189, .if_icmp .lt 43, 3)], [(192, .bipush 6, 2), (194, .iload 5, 2), (196, .iload 9, 2), (198, .iadd, 1), (199, .imul, 1), (200, .iload 8, 2), (202, .iadd, 1), (203, .istore 10, 2), (205, .aload_n 0, 1), (206, .getfield 80, 3)], [(209, .iload 10, 2), (211, .aload_n 0, 1), (212, .getfield 80, 3), (215, .iload 10, 2), (217, .iaload, 1), (218, .iload 7, 2), (220, .iload_n 3, 1), (221, .iload 9, 2), (223, .imul, 1)], [(224, .isub, 1), (225, .iload 4, 2), (227, .iadd, 1), (228, .invokestatic 277, 3), (231, .iastore, 1), (232, .iinc 8 1, 3), (235, .goto (-96), 3), (238, .iinc 6 1, 3)], [(241, .goto (-129), 3), (244, .iinc 5 1, 3), (247, .goto (-163), 3), (250, .bipush (-2), 2), (252, .ireturn, 1)]]
def im_240 : List (List (Nat × Instr × Nat)) := [[(0, .aload_n 0, 1), (1, .iconst 0, 1), (2, .putfield 114, 3), (5, .aload_n 0, 1), (6, .iload_n 1, 1), (7, .invokevirtual 135, 3), (10, .ifCond .eq 23, 3), (13, .aload_n 0, 1), (14, .iload_n 2, 1), (15, .invokevirtual 135, 3)], [(18, .ifCond .eq 15, 3), (21, .iload_n 3, 1), (22, .i2l, 1), (23, .lconst 0, 1), (24, .ldc2_w 292, 3), (27, .invokestatic 128, 3), (30, .ifCond .ne 5, 3)], [(33, .iconst (-1), 1), (34, .ireturn, 1), (35, .aload_n 0, 1), (36, .iload_n 2, 1), (37, .invokevirtual 399, 3), (40, .aload_n 0, 1), (41, .getfield 77, 3), (44, .iload_n 1, 1), (45, .iaload, 1), (46, .bipush 12, 2)], [(48, .if_icmp .le 6, 3), (51, .bipush (-2), 2), (53, .ireturn, 1), (54, .lconst 1, 1), (55, .lstore 4, 2), (57, .lconst 1, 1), (58, .lstore 6, 2), (60, .iconst 0, 1), (61, .istore 8, 2), (63, .iload 8, 2)], [(65, .aload_n 0, 1), (66, .getfield 77, 3), (69, .iload_n 1, 1), (70, .iaload, 1), (71, .if_icmp .ge 27, 3), (74, .lload 4, 2), (76, .bipush 10, 2), (78, .iload_n 3, 1), (79, .isub, 1)], [(80, .i2l, 1), (81, .lmul, 1), (82, .lstore 4, 2), (84, .lload 6, 2), (86, .ldc2_w 292, 3), (89, .lmul, 1), (90, .lstore 6, 2), (92, .iinc 8 1, 3), (95, .goto (-32), 3)], [(98, .lload 4, 2), (100, .lload 6, 2), (102, .invokestatic 118, 3), (105, .lstore 8, 2), (107, .aload_n 0, 1), (108, .iconst 0, 1), (109, .putfield 122, 3)], [(112, .aload_n 0, 1), (113, .lload 4, 2), (115, .lload 8, 2), (117, .ldiv, 1), (118, .invokevirtual 361, 3), (121, .aload_n 0, 1), (122, .lload 6, 2), (124, .lload 8, 2), (126, .ldiv, 1), (127, .invokevirtual 361, 3)], [(130, .iconst 0, 1), (131, .ireturn, 1)]]
def im_241 : List (List (Nat × Instr × Nat)) := [[(0, .iconst 1, 1), (1, .istore_n 2, 1), (2, .iload_n 2, 1), (3, .bipush 99, 2), (5, .if_icmp .gt 59, 3), (8, .aload_n 0, 1), (9, .getfield 35, 3), (12, .bipush 94, 2), (14, .iaload, 1), (15, .istore_n 3, 1)], [(16, .aload_n 0, 1), (17, .aload_n 0, 1), (18, .getfield 35, 3), (21, .invokevirtual 367, 3), (24, .aload_n 0, 1), (25, .aload_n 0, 1), (26, .getfield 35, 3), (29, .bipush 94, 2), (31, .iaload, 1)], [(32, .iload_n 3, 1), (33, .iconst (-1), 1), (34, .ixor, 1), (35, .iand, 1), (36, .aload_n 0, 1), (37, .aload_n 0, 1), (38, .getfield 35, 3), (41, .iload_n 1, 1), (42, .invokevirtual 299, 3), (45, .iand, 1), (46, .putfield 404, 3)], [(49, .aload_n 0, 1), (50, .getfield 404, 3), (53, .ifCond .eq 5, 3), (56, .iload_n 2, 1), (57, .ireturn, 1), (58, .iinc 2 1, 3), (61, .goto (-59), 3)], [(64, .iconst (-1), 1), (65, .ireturn, 1)]]
def im_242 : List (List (Nat × Instr × Nat)) := [[(0, .aload_n 0, 1), (1, .iconst 0, 1), (2, .putfield 114, 3), (5, .aload_n 0, 1), (6, .iload_n 1, 1), (7, .invokevirtual 135, 3), (10, .ifCond .ne 5, 3), (13, .iconst (-1), 1), (14, .ireturn, 1), (15, .aload_n 0, 1)], [(16, .invokevirtual 389, 3), (19, .aload_n 0, 1), (20, .iload_n 1, 1), (21, .invokevirtual 407, 3), (24, .istore_n 2, 1), (25, .iload_n 2, 1), (26, .ifCond .ge 6, 3), (29, .bipush (-2), 2), (31, .ireturn, 1)], [(32, .aload_n 0, 1), (33, .iconst 0, 1), (34, .putfield 122, 3), (37, .aload_n 0, 1), (38, .aload_n 0, 1), (39, .getfield 404, 3), (42, .invokestatic 410, 3), (45, .i2l, 1), (46, .invokevirtual 361, 3)], [(49, .aload_n 0, 1), (50, .aload_n 0, 1), (51, .getfield 35, 3), (54, .iload_n 1, 1), (55, .iaload, 1), (56, .i2l, 1), (57, .invokevirtual 361, 3), (60, .iload_n 2, 1), (61, .ireturn, 1)]]
def im_243 : List (List (Nat × Instr × Nat)) := [[(0, .aload_n 0, 1), (1, .iconst 0, 1), (2, .putfield 114, 3), (5, .aload_n 0, 1), (6, .iload_n 1, 1), (7, .iload_n 2, 1), (8, .invokevirtual 312, 3), (11, .ifCond .ne 5, 3), (14, .iconst (-1), 1), (15, .ireturn, 1)], [(16, .bipush (-2), 2), (18, .istore_n 3, 1), (19, .ldc_w 388, 3), (22, .istore 4, 2), (24, .iconst 0, 1), (25, .istore 5, 2), (27, .iload 5, 2), (29, .aload_n 0, 1), (30, .getfield 132, 3)], [(33, .if_icmp .ge 77, 3), (36, .aload_n 0, 1), (37, .getfield 32, 3), (40, .bipush 78, 2), (42, .iload 5, 2), (44, .iadd, 1), (45, .iaload, 1), (46, .iload_n 1, 1), (47, .if_icmp .ne 57, 3)], [(50, .aload_n 0, 1), (51, .aload_n 0, 1), (52, .getfield 32, 3), (55, .iload 5, 2), (57, .invokevirtual 347, 3), (60, .ifCond .eq 44, 3), (63, .aload_n 0, 1)], [(64, .invokevirtual 389, 3), (67, .aload_n 0, 1), (68, .getfield 35, 3), (71, .bipush 78, 2), (73, .iload 5, 2), (75, .iadd, 1), (76, .iload_n 2, 1), (77, .iastore, 1), (78, .aload_n 0, 1), (79, .iload_n 2, 1)], [(80, .invokevirtual 407, 3), (83, .istore 6, 2), (85, .iload 6, 2), (87, .ifCond .le 17, 3), (90, .iload 6, 2), (92, .iload 4, 2), (94, .if_icmp .ge 10, 3)], [(97, .iload 5, 2), (99, .istore_n 3, 1), (100, .iload 6, 2), (102, .istore 4, 2), (104, .iinc 5 1, 3), (107, .goto (-80), 3), (110, .iload_n 3, 1), (111, .ifCond .lt 15, 3)], [(114, .aload_n 0, 1), (115, .iconst 0, 1), (116, .putfield 122, 3), (119, .aload_n 0, 1), (120, .iload 4, 2), (122, .i2l, 1), (123, .invokevirtual 361, 3), (126, .iload_n 3, 1), (127, .ireturn, 1)]]
def im_244 : List (List (Nat × Instr × Nat)) := [[(0, .aload_n 0, 1), (1, .iconst 0, 1), (2, .putfield 114, 3), (5, .aload_n 0, 1), (6, .iload_n 1, 1), (7, .invokevirtual 135, 3), (10, .ifCond .ne 7, 3), (13, .ldc_w 413, 3)], [(16, .ireturn, 1), (17, .aload_n 0, 1), (18, .iconst 0, 1), (19, .putfield 122, 3), (22, .aload_n 0, 1), (23, .aload_n 0, 1), (24, .iload_n 1, 1), (25, .invokevirtual 414, 3), (28, .i2l, 1), (29, .invokevirtual 361, 3)], [(32, .aload_n 0, 1), (33, .aload_n 0, 1), (34, .iload_n 1, 1), (35, .invokevirtual 309, 3), (38, .i2l, 1), (39, .invokevirtual 361, 3), (42, .aload_n 0, 1), (43, .iload_n 1, 1), (44, .invokevirtual 414, 3), (47, .aload_n 0, 1)], [(48, .iload_n 1, 1), (49, .invokevirtual 309, 3), (52, .isub, 1), (53, .ireturn, 1)]]
def im_245 : List (List (Nat × Instr × Nat)) := [[(0, .aload_n 0, 1), (1, .iconst 0, 1), (2, .putfield 114, 3), (5, .iconst 0, 1), (6, .istore_n 1, 1), (7, .iconst 0, 1), (8, .istore_n 2, 1), (9, .iload_n 2, 1), (10, .aload_n 0, 1), (11, .getfield 125, 3), (14, .if_icmp .ge 32, 3)], [(17, .iload_n 1, 1), (18, .aload_n 0, 1), (19, .iload_n 2, 1), (20, .invokevirtual 414, 3), (23, .aload_n 0, 1), (24, .iload_n 2, 1), (25, .invokevirtual 309, 3), (28, .if_icmp .eq 9, 3), (31, .iconst 1, 1)], [(32, .iload_n 2, 1), (33, .ishl, 1), (34, .goto 4, 3), (37, .iconst 0, 1), (38, .ior, 1), (39, .istore_n 1, 1), (40, .iinc 2 1, 3), (43, .goto (-34), 3), (46, .iconst 0, 1), (47, .istore_n 2, 1)], [(48, .iload_n 2, 1), (49, .iconst 1, 1), (50, .aload_n 0, 1), (51, .getfield 125, 3), (54, .ishl, 1), (55, .if_icmp .ge 124, 3), (58, .aload_n 0, 1), (59, .getfield 83, 3), (62, .iload_n 2, 1), (63, .iconst 0, 1)], [(64, .iastore, 1), (65, .aload_n 0, 1), (66, .getfield 86, 3), (69, .iload_n 2, 1), (70, .iconst 0, 1), (71, .iastore, 1), (72, .iconst 0, 1), (73, .istore_n 3, 1), (74, .iload_n 3, 1), (75, .aload_n 0, 1), (76, .getfield 125, 3), (79, .if_icmp .ge 64, 3)], [(82, .iload_n 2, 1), (83, .iload_n 3, 1), (84, .invokestatic 139, 3), (87, .ifCond .eq 50, 3), (90, .aload_n 0, 1), (91, .getfield 83, 3), (94, .iload_n 2, 1), (95, .dup2, 1)], [(96, .iaload, 1), (97, .aload_n 0, 1), (98, .iload_n 3, 1), (99, .invokevirtual 414, 3), (102, .aload_n 0, 1), (103, .iload_n 3, 1), (104, .invokevirtual 309, 3), (107, .isub, 1), (108, .iadd, 1), (109, .iastore, 1), (110, .aload_n 0, 1), (111, .getfield 86, 3)], [(114, .iload_n 2, 1), (115, .aload_n 0, 1), (116, .getfield 86, 3), (119, .iload_n 2, 1), (120, .iaload, 1), (121, .aload_n 0, 1), (122, .getfield 86, 3), (125, .iload_n 2, 1), (126, .iconst 1, 1), (127, .iload_n 3, 1)], [(128, .ishl, 1), (129, .iconst (-1), 1), (130, .ixor, 1), (131, .iand, 1), (132, .iaload, 1), (133, .invokestatic 277, 3), (136, .iastore, 1), (137, .iinc 3 1, 3), (140, .goto (-66), 3), (143, .aload_n 0, 1)], [(144, .getfield 86, 3), (147, .iload_n 2, 1), (148, .dup2, 1), (149, .iaload, 1), (150, .iload_n 2, 1), (151, .ifCond .eq 16, 3), (154, .aload_n 0, 1), (155, .getfield 83, 3), (158, .iload_n 2, 1), (159, .iaload, 1)], [(160, .ifCond .ne 7, 3), (163, .iconst 1, 1), (164, .goto 4, 3), (167, .iconst 0, 1), (168, .invokestatic 165, 3), (171, .iadd, 1), (172, .iastore, 1), (173, .iinc 2 1, 3)], [(176, .goto (-128), 3), (179, .aload_n 0, 1), (180, .iconst 0, 1), (181, .putfield 122, 3), (184, .aload_n 0, 1), (185, .iload_n 1, 1), (186, .invokestatic 265, 3), (189, .i2l, 1), (190, .invokevirtual 361, 3)], [(193, .iload_n 1, 1), (194, .invokestatic 265, 3), (197, .aload_n 0, 1), (198, .getfield 86, 3), (201, .iload_n 1, 1), (202, .iaload, 1), (203, .isub, 1), (204, .ireturn, 1)]]
def im_246 : List (List (Nat × Instr × Nat)) := [[(0, .aload_n 0, 1), (1, .getfield 89, 3), (4, .iload_n 1, 1), (5, .iconst 1, 1), (6, .isub, 1), (7, .iaload, 1), (8, .istore_n 3, 1), (9, .iload_n 1, 1), (10, .aload_n 0, 1), (11, .getfield 417, 3), (14, .if_icmp .ge 59, 3)], [(17, .iload_n 1, 1), (18, .iconst 1, 1), (19, .if_icmp .le 54, 3), (22, .aload_n 0, 1), (23, .getfield 32, 3), (26, .iload_n 3, 1), (27, .aload_n 0, 1), (28, .getfield 89, 3), (31, .iconst 0, 1)], [(32, .iaload, 1), (33, .invokestatic 287, 3), (36, .ifCond .le 37, 3), (39, .aload_n 0, 1), (40, .iload_n 1, 1), (41, .putfield 417, 3), (44, .iconst 0, 1), (45, .istore 4, 2), (47, .iload 4, 2)], [(49, .iload_n 1, 1), (50, .if_icmp .ge 23, 3), (53, .aload_n 0, 1), (54, .getfield 92, 3), (57, .iload 4, 2), (59, .aload_n 0, 1), (60, .getfield 89, 3), (63, .iload 4, 2)], [(65, .iaload, 1), (66, .iastore, 1), (67, .iinc 4 1, 3), (70, .goto (-23), 3), (73, .aload_n 0, 1), (74, .getfield 89, 3), (77, .iconst 0, 1), (78, .iaload, 1), (79, .iconst 1, 1)], [(80, .iadd, 1), (81, .istore 4, 2), (83, .iload 4, 2), (85, .aload_n 0, 1), (86, .getfield 125, 3), (89, .if_icmp .ge 62, 3), (92, .iload_n 1, 1), (93, .iconst 1, 1), (94, .iadd, 1), (95, .aload_n 0, 1)], [(96, .getfield 417, 3), (99, .if_icmp .ge 52, 3), (102, .iload_n 2, 1), (103, .iload 4, 2), (105, .invokestatic 139, 3), (108, .ifCond .ne 37, 3), (111, .aload_n 0, 1)], [(112, .getfield 32, 3), (115, .iload_n 3, 1), (116, .iload 4, 2), (118, .invokestatic 287, 3), (121, .ifCond .le 24, 3), (124, .aload_n 0, 1), (125, .getfield 89, 3)], [(128, .iload_n 1, 1), (129, .iload 4, 2), (131, .iastore, 1), (132, .aload_n 0, 1), (133, .iload_n 1, 1), (134, .iconst 1, 1), (135, .iadd, 1), (136, .iload_n 2, 1), (137, .iconst 1, 1), (138, .iload 4, 2), (140, .ishl, 1), (141, .ior, 1), (142, .invokevirtual 420, 3)], [(145, .iinc 4 1, 3), (148, .goto (-65), 3), (151, .return_, 1)]]
def im_247 : List (List (Nat × Instr × Nat)) := [[(0, .aload_n 0, 1), (1, .iconst 0, 1), (2, .putfield 114, 3), (5, .aload_n 0, 1), (6, .bipush 7, 2), (8, .putfield 417, 3), (11, .iconst 0, 1), (12, .istore_n 1, 1), (13, .iload_n 1, 1), (14, .aload_n 0, 1), (15, .getfield 125, 3)], [(18, .if_icmp .ge 24, 3), (21, .aload_n 0, 1), (22, .getfield 89, 3), (25, .iconst 0, 1), (26, .iload_n 1, 1), (27, .iastore, 1), (28, .aload_n 0, 1), (29, .iconst 1, 1), (30, .iconst 1, 1), (31, .iload_n 1, 1)], [(32, .ishl, 1), (33, .invokevirtual 420, 3), (36, .iinc 1 1, 3), (39, .goto (-26), 3), (42, .aload_n 0, 1), (43, .getfield 417, 3), (46, .bipush 6, 2)], [(48, .if_icmp .le 6, 3), (51, .bipush (-2), 2), (53, .ireturn, 1), (54, .ldc_w 388, 3), (57, .istore_n 1, 1), (58, .aload_n 0, 1), (59, .iconst 0, 1), (60, .putfield 122, 3), (63, .iconst 0, 1)], [(64, .istore_n 2, 1), (65, .iload_n 2, 1), (66, .aload_n 0, 1), (67, .getfield 417, 3), (70, .if_icmp .ge 51, 3), (73, .aload_n 0, 1), (74, .aload_n 0, 1), (75, .getfield 92, 3), (78, .iload_n 2, 1), (79, .iaload, 1)], [(80, .i2l, 1), (81, .invokevirtual 361, 3), (84, .iload_n 1, 1), (85, .aload_n 0, 1), (86, .getfield 32, 3), (89, .aload_n 0, 1), (90, .getfield 92, 3), (93, .iload_n 2, 1), (94, .iaload, 1), (95, .aload_n 0, 1)], [(96, .getfield 92, 3), (99, .iload_n 2, 1), (100, .iconst 1, 1), (101, .iadd, 1), (102, .aload_n 0, 1), (103, .getfield 417, 3), (106, .irem, 1), (107, .iaload, 1), (108, .invokestatic 287, 3), (111, .invokestatic 156, 3)], [(114, .istore_n 1, 1), (115, .iinc 2 1, 3), (118, .goto (-53), 3), (121, .aload_n 0, 1), (122, .iload_n 1, 1), (123, .i2l, 1), (124, .invokevirtual 361, 3), (127, .aload_n 0, 1)], [(128, .getfield 417, 3), (131, .ireturn, 1)]]
def im_248 : List (List (Nat × Instr × Nat)) := [[(0, .iconst 0, 1), (1, .istore_n 2, 1), (2, .iconst 0, 1), (3, .istore_n 3, 1), (4, .iload_n 3, 1), (5, .aload_n 0, 1), (6, .getfield 125, 3), (9, .if_icmp .ge 30, 3), (12, .iload_n 2, 1), (13, .iload_n 3, 1), (14, .iload_n 1, 1), (15, .if_icmp .ne 7, 3)], [(18, .iconst 0, 1), (19, .goto 12, 3), (22, .aload_n 0, 1), (23, .getfield 32, 3), (26, .iload_n 3, 1), (27, .iload_n 1, 1), (28, .invokestatic 143, 3), (31, .iadd, 1)], [(32, .istore_n 2, 1), (33, .iinc 3 1, 3), (36, .goto (-32), 3), (39, .iload_n 2, 1), (40, .ireturn, 1)]]
def im_249 : List (List (Nat × Instr × Nat)) := [[(0, .aload_n 0, 1), (1, .iconst 0, 1), (2, .putfield 114, 3), (5, .aload_n 0, 1), (6, .getfield 125, 3), (9, .ifCond .ne 6, 3), (12, .bipush (-2), 2), (14, .ireturn, 1), (15, .aload_n 0, 1)], [(16, .iconst 0, 1), (17, .putfield 122, 3), (20, .iconst 0, 1), (21, .istore_n 1, 1), (22, .iconst (-1), 1), (23, .istore_n 2, 1), (24, .iconst 0, 1), (25, .istore_n 3, 1), (26, .iload_n 3, 1), (27, .aload_n 0, 1), (28, .getfield 125, 3), (31, .if_icmp .ge 93, 3)], [(34, .iconst (-1), 1), (35, .istore 4, 2), (37, .iconst 0, 1), (38, .istore 5, 2), (40, .iload 5, 2), (42, .aload_n 0, 1), (43, .getfield 125, 3), (46, .if_icmp .ge 47, 3)], [(49, .iload_n 1, 1), (50, .iload 5, 2), (52, .invokestatic 139, 3), (55, .ifCond .ne 28, 3), (58, .iload 4, 2), (60, .ifCond .lt 18, 3), (63, .aload_n 0, 1)], [(64, .iload 5, 2), (66, .invokevirtual 423, 3), (69, .aload_n 0, 1), (70, .iload 4, 2), (72, .invokevirtual 423, 3), (75, .if_icmp .le 8, 3), (78, .iload 5, 2)], [(80, .goto 5, 3), (83, .iload 4, 2), (85, .istore 4, 2), (87, .iinc 5 1, 3), (90, .goto (-50), 3), (93, .aload_n 0, 1), (94, .iload 4, 2)], [(96, .i2l, 1), (97, .invokevirtual 361, 3), (100, .iload_n 1, 1), (101, .iconst 1, 1), (102, .iload 4, 2), (104, .ishl, 1), (105, .ior, 1), (106, .istore_n 1, 1), (107, .iload_n 3, 1), (108, .ifCond .ne 8, 3), (111, .iload 4, 2)], [(113, .goto 4, 3), (116, .iload_n 2, 1), (117, .istore_n 2, 1), (118, .iinc 3 1, 3), (121, .goto (-95), 3), (124, .aload_n 0, 1), (125, .aload_n 0, 1), (126, .iload_n 2, 1), (127, .invokevirtual 423, 3)], [(130, .i2l, 1), (131, .invokevirtual 361, 3), (134, .iload_n 2, 1), (135, .ireturn, 1)]]
def im_250 : List (List (Nat × Instr × Nat)) := [[(0, .aload_n 0, 1), (1, .iconst 0, 1), (2, .putfield 114, 3), (5, .iconst 0, 1), (6, .istore_n 1, 1), (7, .iconst 0, 1), (8, .istore_n 2, 1), (9, .iload_n 2, 1), (10, .iconst 1, 1), (11, .aload_n 0, 1), (12, .getfield 125, 3), (15, .ishl, 1)], [(16, .if_icmp .ge 93, 3), (19, .iload_n 2, 1), (20, .invokestatic 265, 3), (23, .iload_n 1, 1), (24, .invokestatic 265, 3), (27, .if_icmp .le 7, 3), (30, .iconst 1, 1), (31, .goto 4, 3)], [(34, .iconst 0, 1), (35, .istore_n 3, 1), (36, .iconst 0, 1), (37, .istore 4, 2), (39, .iload 4, 2), (41, .aload_n 0, 1), (42, .getfield 125, 3), (45, .if_icmp .ge 48, 3)], [(48, .iload_n 3, 1), (49, .ifCond .eq 44, 3), (52, .iload_n 2, 1), (53, .iload 4, 2), (55, .invokestatic 139, 3), (58, .ifCond .eq 23, 3), (61, .iload_n 2, 1), (62, .iconst 1, 1), (63, .iload 4, 2)], [(65, .ishl, 1), (66, .iconst (-1), 1), (67, .ixor, 1), (68, .iand, 1), (69, .aload_n 0, 1), (70, .iload 4, 2), (72, .invokevirtual 303, 3), (75, .iconst (-1), 1), (76, .ixor, 1), (77, .iand, 1), (78, .ifCond .ne 7, 3)], [(81, .iconst 1, 1), (82, .goto 4, 3), (85, .iconst 0, 1), (86, .istore_n 3, 1), (87, .iinc 4 1, 3), (90, .goto (-51), 3), (93, .iload_n 3, 1), (94, .ifCond .eq 7, 3)], [(97, .iload_n 2, 1), (98, .goto 4, 3), (101, .iload_n 1, 1), (102, .istore_n 1, 1), (103, .iinc 2 1, 3), (106, .goto (-97), 3), (109, .aload_n 0, 1), (110, .iconst 0, 1), (111, .putfield 122, 3)], [(114, .aload_n 0, 1), (115, .iload_n 1, 1), (116, .i2l, 1), (117, .invokevirtual 361, 3), (120, .iload_n 1, 1), (121, .invokestatic 265, 3), (124, .ireturn, 1)]]
def im_251 : List (List (Nat × Instr × Nat)) := [[(0, .aload_n 0, 1), (1, .iconst 0, 1), (2, .putfield 114, 3), (5, .iload_n 1, 1), (6, .ifCond .ne 7, 3), (9, .iconst 4, 1), (10, .goto 23, 3), (13, .iload_n 1, 1), (14, .iconst 1, 1), (15, .if_icmp .ne 8, 3)], [(18, .bipush 99, 2), (20, .goto 13, 3), (23, .iload_n 1, 1), (24, .iconst 2, 1), (25, .if_icmp .ne 7, 3), (28, .iconst 5, 1), (29, .goto 4, 3)], [(32, .iconst 1, 1), (33, .istore_n 3, 1), (34, .iload_n 1, 1), (35, .i2l, 1), (36, .lconst 0, 1), (37, .ldc2_w 322, 3), (40, .invokestatic 128, 3), (43, .ifCond .eq 36, 3), (46, .iload_n 2, 1), (47, .i2l, 1)], [(48, .iload_n 1, 1), (49, .iconst 1, 1), (50, .if_icmp .ne 7, 3), (53, .iconst 1, 1), (54, .goto 4, 3), (57, .iconst 0, 1), (58, .invokestatic 165, 3), (61, .i2l, 1), (62, .iload_n 3, 1), (63, .i2l, 1)], [(64, .invokestatic 128, 3), (67, .ifCond .eq 12, 3), (70, .aload_n 0, 1), (71, .getfield 426, 3), (74, .bipush 12, 2), (76, .if_icmp .ne 5, 3), (79, .iconst (-1), 1)], [(80, .ireturn, 1), (81, .aload_n 0, 1), (82, .getfield 95, 3), (85, .aload_n 0, 1), (86, .getfield 426, 3), (89, .iload_n 1, 1), (90, .iastore, 1), (91, .aload_n 0, 1), (92, .getfield 98, 3), (95, .aload_n 0, 1)], [(96, .getfield 426, 3), (99, .iload_n 2, 1), (100, .iastore, 1), (101, .aload_n 0, 1), (102, .dup, 1), (103, .getfield 426, 3), (106, .iconst 1, 1), (107, .iadd, 1), (108, .putfield 426, 3), (111, .aload_n 0, 1)], [(112, .getfield 426, 3), (115, .ireturn, 1)]]
def im_252 : List (List (Nat × Instr × Nat)) := [[(0, .aload_n 0, 1), (1, .iconst 0, 1), (2, .putfield 114, 3), (5, .aload_n 0, 1), (6, .getfield 426, 3), (9, .istore_n 1, 1), (10, .aload_n 0, 1), (11, .iconst 0, 1), (12, .putfield 426, 3), (15, .iload_n 1, 1)], [(16, .ireturn, 1)]]
def im_253 : List (List (Nat × Instr × Nat)) := [[(0, .iload_n 2, 1), (1, .tableswitch 73 0 2 #[27, 43, 59], 27)], [(28, .aload_n 0, 1), (29, .getfield 20, 3)], [(32, .iload_n 1, 1), (33, .iaload, 1), (34, .iload_n 3, 1), (35, .if_icmp .ne 7, 3), (38, .iconst 1, 1), (39, .goto 4, 3), (42, .iconst 0, 1), (43, .ireturn, 1), (44, .aload_n 0, 1), (45, .getfield 23, 3)], [(48, .iload_n 1, 1), (49, .iaload, 1), (50, .iload_n 3, 1), (51, .if_icmp .lt 7, 3), (54, .iconst 1, 1), (55, .goto 4, 3), (58, .iconst 0, 1), (59, .ireturn, 1), (60, .aload_n 0, 1), (61, .getfield 32, 3)], [(64, .bipush 86, 2), (66, .iload_n 1, 1), (67, .iadd, 1), (68, .iaload, 1), (69, .iload_n 3, 1), (70, .invokestatic 139, 3), (73, .ireturn, 1), (74, .aload_n 0, 1), (75, .getfield 32, 3), (78, .iload_n 1, 1), (79, .invokestatic 270, 3)], [(82, .invokestatic 165, 3), (85, .iload_n 3, 1), (86, .if_icmp .ne 7, 3), (89, .iconst 1, 1), (90, .goto 4, 3), (93, .iconst 0, 1), (94, .ireturn, 1)]]
def im_254 : List (List (Nat × Instr × Nat)) := [[(0, .iconst 0, 1), (1, .istore_n 1, 1), (2, .iconst 0, 1), (3, .istore_n 2, 1), (4, .iload_n 2, 1), (5, .aload_n 0, 1), (6, .getfield 132, 3), (9, .if_icmp .ge 75, 3), (12, .iconst 1, 1), (13, .istore_n 3, 1), (14, .iconst 0, 1), (15, .istore 4, 2)], [(17, .iload 4, 2), (19, .aload_n 0, 1), (20, .getfield 426, 3), (23, .if_icmp .ge 41, 3), (26, .iload_n 3, 1), (27, .ifCond .eq 29, 3), (30, .aload_n 0, 1), (31, .iload_n 2, 1)], [(32, .aload_n 0, 1), (33, .getfield 95, 3), (36, .iload 4, 2), (38, .iaload, 1), (39, .aload_n 0, 1), (40, .getfield 98, 3), (43, .iload 4, 2), (45, .iaload, 1), (46, .invokevirtual 429, 3)], [(49, .ifCond .eq 7, 3), (52, .iconst 1, 1), (53, .goto 4, 3), (56, .iconst 0, 1), (57, .istore_n 3, 1), (58, .iinc 4 1, 3), (61, .goto (-44), 3)], [(64, .iload_n 1, 1), (65, .iload_n 3, 1), (66, .ifCond .eq 9, 3), (69, .iconst 1, 1), (70, .iload_n 2, 1), (71, .ishl, 1), (72, .goto 4, 3), (75, .iconst 0, 1), (76, .ior, 1), (77, .istore_n 1, 1), (78, .iinc 2 1, 3)], [(81, .goto (-77), 3), (84, .iload_n 1, 1), (85, .ireturn, 1)]]
def im_255 : List (List (Nat × Instr × Nat)) := [[(0, .aload_n 0, 1), (1, .iconst 0, 1), (2, .putfield 114, 3), (5, .aload_n 0, 1), (6, .invokevirtual 433, 3), (9, .istore_n 1, 1), (10, .iconst 0, 1), (11, .istore_n 2, 1), (12, .iconst 0, 1), (13, .istore_n 3, 1), (14, .iload_n 3, 1), (15, .aload_n 0, 1)], [(16, .getfield 132, 3), (19, .if_icmp .ge 30, 3), (22, .iload_n 2, 1), (23, .iload_n 1, 1), (24, .iload_n 3, 1), (25, .invokestatic 139, 3), (28, .ifCond .eq 12, 3), (31, .aload_n 0, 1)], [(32, .getfield 23, 3), (35, .iload_n 3, 1), (36, .iaload, 1), (37, .goto 4, 3), (40, .iconst 0, 1), (41, .iadd, 1), (42, .istore_n 2, 1), (43, .iinc 3 1, 3), (46, .goto (-32), 3)], [(49, .aload_n 0, 1), (50, .iconst 0, 1), (51, .putfield 122, 3), (54, .aload_n 0, 1), (55, .iload_n 1, 1), (56, .invokestatic 265, 3), (59, .i2l, 1), (60, .invokevirtual 361, 3), (63, .aload_n 0, 1)], [(64, .iload_n 2, 1), (65, .i2l, 1), (66, .invokevirtual 361, 3), (69, .iload_n 1, 1), (70, .ireturn, 1)]]
def im_256 : List (List (Nat × Instr × Nat)) := [[(0, .aload_n 0, 1), (1, .iconst 0, 1), (2, .putfield 114, 3), (5, .aload_n 0, 1), (6, .invokevirtual 433, 3), (9, .istore_n 1, 1), (10, .iload_n 1, 1), (11, .ifCond .ne 6, 3), (14, .bipush (-2), 2)], [(16, .ireturn, 1), (17, .iconst (-1), 1), (18, .istore_n 2, 1), (19, .ldc_w 388, 3), (22, .istore_n 3, 1), (23, .iconst 0, 1), (24, .istore 4, 2), (26, .iload 4, 2), (28, .aload_n 0, 1), (29, .getfield 125, 3)], [(32, .if_icmp .ge 104, 3), (35, .iconst 0, 1), (36, .istore 5, 2), (38, .iconst 0, 1), (39, .istore 6, 2), (41, .iload 6, 2), (43, .aload_n 0, 1), (44, .getfield 132, 3), (47, .if_icmp .ge 49, 3)], [(50, .iload 5, 2), (52, .iload_n 1, 1), (53, .iload 6, 2), (55, .invokestatic 139, 3), (58, .ifCond .eq 25, 3), (61, .aload_n 0, 1), (62, .getfield 32, 3)], [(65, .bipush 86, 2), (67, .iload 6, 2), (69, .iadd, 1), (70, .iaload, 1), (71, .iload 4, 2), (73, .invokestatic 139, 3), (76, .ifCond .eq 7, 3), (79, .iconst 1, 1)], [(80, .goto 4, 3), (83, .iconst 0, 1), (84, .invokestatic 165, 3), (87, .iadd, 1), (88, .istore 5, 2), (90, .iinc 6 1, 3), (93, .goto (-52), 3)], [(96, .iload 5, 2), (98, .iload_n 1, 1), (99, .invokestatic 265, 3), (102, .iload 5, 2), (104, .isub, 1), (105, .invokestatic 277, 3), (108, .istore 6, 2), (110, .iload 6, 2)], [(112, .iload_n 3, 1), (113, .if_icmp .ge 8, 3), (116, .iload 4, 2), (118, .goto 4, 3), (121, .iload_n 2, 1), (122, .istore_n 2, 1), (123, .iload_n 3, 1), (124, .iload 6, 2), (126, .invokestatic 156, 3)], [(129, .istore_n 3, 1), (130, .iinc 4 1, 3), (133, .goto (-107), 3), (136, .aload_n 0, 1), (137, .iconst 0, 1), (138, .putfield 122, 3), (141, .aload_n 0, 1), (142, .iload_n 3, 1), (143, .i2l, 1)], [(144, .invokevirtual 361, 3), (147, .iload_n 2, 1), (148, .ireturn, 1)]]
def im_257 : List (List (Nat × Instr × Nat)) := [[(0, .iconst 0, 1), (1, .istore_n 1, 1), (2, .iconst 0, 1), (3, .istore_n 2, 1), (4, .iload_n 2, 1), (5, .aload_n 0, 1), (6, .getfield 132, 3), (9, .if_icmp .ge 30, 3), (12, .iload_n 1, 1), (13, .aload_n 0, 1), (14, .aload_n 0, 1), (15, .getfield 32, 3)], [(18, .iload_n 2, 1), (19, .aload_n 0, 1), (20, .getfield 32, 3), (23, .bipush 78, 2), (25, .iload_n 2, 1), (26, .iadd, 1), (27, .iaload, 1), (28, .invokevirtual 331, 3), (31, .iadd, 1)], [(32, .istore_n 1, 1), (33, .iinc 2 1, 3), (36, .goto (-32), 3), (39, .iload_n 1, 1), (40, .ireturn, 1)]]
def im_258 : List (List (Nat × Instr × Nat)) := [[(0, .aload_n 0, 1), (1, .iconst 0, 1), (2, .putfield 114, 3), (5, .aload_n 0, 1), (6, .invokevirtual 254, 3), (9, .istore_n 1, 1), (10, .iload_n 1, 1), (11, .ifCond .ge 11, 3), (14, .iload_n 1, 1), (15, .iconst 1, 1)], [(16, .iadd, 1), (17, .sipush 10000, 3), (20, .isub, 1), (21, .ireturn, 1), (22, .aload_n 0, 1), (23, .invokevirtual 436, 3), (26, .istore_n 2, 1), (27, .aload_n 0, 1), (28, .getfield 251, 3), (31, .istore_n 3, 1)], [(32, .iconst 0, 1), (33, .istore 4, 2), (35, .iload 4, 2), (37, .aload_n 0, 1), (38, .getfield 251, 3), (41, .if_icmp .ge 23, 3), (44, .aload_n 0, 1), (45, .getfield 101, 3)], [(48, .iload 4, 2), (50, .aload_n 0, 1), (51, .getfield 44, 3), (54, .iload 4, 2), (56, .iaload, 1), (57, .iastore, 1), (58, .iinc 4 1, 3), (61, .goto (-26), 3)], [(64, .aload_n 0, 1), (65, .aload_n 0, 1), (66, .getfield 47, 3), (69, .aload_n 0, 1), (70, .getfield 226, 3), (73, .invokevirtual 257, 3), (76, .aload_n 0, 1), (77, .invokevirtual 436, 3)], [(80, .istore 4, 2), (82, .aload_n 0, 1), (83, .aload_n 0, 1), (84, .getfield 101, 3), (87, .iload_n 3, 1), (88, .invokevirtual 257, 3), (91, .aload_n 0, 1), (92, .iconst 0, 1), (93, .putfield 122, 3)], [(96, .aload_n 0, 1), (97, .iload 4, 2), (99, .i2l, 1), (100, .invokevirtual 361, 3), (103, .aload_n 0, 1), (104, .iload_n 2, 1), (105, .i2l, 1), (106, .invokevirtual 361, 3), (109, .iload 4, 2), (111, .iload_n 2, 1)], [(112, .isub, 1), (113, .ireturn, 1)]]
def im_259 : List (List (Nat × Instr × Nat)) := [[(0, .iload_n 0, 1), (1, .iload_n 1, 1), (2, .if_icmp .le 7, 3), (5, .iload_n 2, 1), (6, .goto 15, 3), (9, .iload_n 0, 1), (10, .iload_n 1, 1), (11, .if_icmp .ne 9, 3), (14, .iload_n 2, 1), (15, .iconst 2, 1)], [(16, .idiv, 1), (17, .goto 4, 3), (20, .iconst 0, 1), (21, .istore_n 3, 1), (22, .iload_n 3, 1), (23, .iload_n 0, 1), (24, .isub, 1), (25, .iconst 3, 1), (26, .iload_n 0, 1), (27, .iconst 2, 1), (28, .iload_n 1, 1), (29, .imul, 1), (30, .if_icmp .le 7, 3)], [(33, .iconst 1, 1), (34, .goto 4, 3), (37, .iconst 0, 1), (38, .invokestatic 165, 3), (41, .imul, 1), (42, .isub, 1), (43, .ireturn, 1)]]
def im_260 : List (List (Nat × Instr × Nat)) := [[(0, .iconst 1, 1), (1, .istore_n 3, 1), (2, .iconst 0, 1), (3, .istore 4, 2), (5, .iload 4, 2), (7, .bipush 9, 2), (9, .if_icmp .gt 35, 3), (12, .iload_n 3, 1), (13, .ifCond .eq 23, 3)], [(16, .iload 4, 2), (18, .iload_n 1, 1), (19, .iload_n 2, 1), (20, .invokestatic 439, 3), (23, .iload_n 0, 1), (24, .iload_n 1, 1), (25, .iload_n 2, 1), (26, .invokestatic 439, 3), (29, .if_icmp .gt 7, 3)], [(32, .iconst 1, 1), (33, .goto 4, 3), (36, .iconst 0, 1), (37, .istore_n 3, 1), (38, .iinc 4 1, 3), (41, .goto (-36), 3), (44, .iload_n 3, 1), (45, .ireturn, 1)]]
def im_261 : List (List (Nat × Instr × Nat)) := [[(0, .aload_n 0, 1), (1, .iconst 0, 1), (2, .putfield 114, 3), (5, .iload_n 1, 1), (6, .i2l, 1), (7, .lconst 0, 1), (8, .ldc2_w 442, 3), (11, .invokestatic 128, 3), (14, .ifCond .ne 5, 3)], [(17, .iconst (-1), 1), (18, .ireturn, 1), (19, .iconst 0, 1), (20, .istore_n 2, 1), (21, .aload_n 0, 1), (22, .iconst 0, 1), (23, .putfield 122, 3), (26, .iconst 0, 1), (27, .istore_n 3, 1), (28, .iload_n 3, 1), (29, .bipush 9, 2), (31, .if_icmp .gt 65, 3)], [(34, .iconst 0, 1), (35, .istore 4, 2), (37, .iload 4, 2), (39, .bipush 9, 2), (41, .if_icmp .gt 49, 3), (44, .iload_n 3, 1), (45, .iload 4, 2), (47, .iload_n 1, 1)], [(48, .invokestatic 444, 3), (51, .ifCond .eq 33, 3), (54, .iload 4, 2), (56, .iload_n 3, 1), (57, .iload_n 1, 1), (58, .invokestatic 444, 3), (61, .ifCond .eq 23, 3)], [(64, .iload_n 2, 1), (65, .ifCond .ne 16, 3), (68, .aload_n 0, 1), (69, .iload_n 3, 1), (70, .i2l, 1), (71, .invokevirtual 361, 3), (74, .aload_n 0, 1), (75, .iload 4, 2), (77, .i2l, 1), (78, .invokevirtual 361, 3)], [(81, .iinc 2 1, 3), (84, .iinc 4 1, 3), (87, .goto (-50), 3), (90, .iinc 3 1, 3), (93, .goto (-65), 3)], [(96, .iload_n 2, 1), (97, .ireturn, 1)]]
def im_262 : List (List (Nat × Instr × Nat)) := [[(0, .aload_n 0, 1), (1, .aload_n 0, 1), (2, .getfield 447, 3), (5, .ldc_w 450, 3), (8, .imul, 1), (9, .sipush 12345, 3), (12, .iadd, 1), (13, .putfield 447, 3)], [(16, .aload_n 0, 1), (17, .getfield 447, 3), (20, .bipush 16, 2), (22, .iushr, 1), (23, .iload_n 1, 1), (24, .irem, 1), (25, .ireturn, 1)]]
def im_263 : List (List (Nat × Instr × Nat)) := [[(0, .aload_n 0, 1), (1, .iconst 0, 1), (2, .putfield 114, 3), (5, .iload_n 2, 1), (6, .i2l, 1), (7, .lconst 1, 1), (8, .ldc2_w 365, 3), (11, .invokestatic 128, 3), (14, .ifCond .ne 5, 3)], [(17, .iconst (-1), 1), (18, .ireturn, 1), (19, .aload_n 0, 1), (20, .iload_n 1, 1), (21, .putfield 447, 3), (24, .aload_n 0, 1), (25, .invokevirtual 389, 3), (28, .iconst 0, 1), (29, .istore_n 3, 1), (30, .iconst 0, 1), (31, .istore 4, 2)], [(33, .iload 4, 2), (35, .iload_n 2, 1), (36, .if_icmp .ge 77, 3), (39, .aload_n 0, 1), (40, .iconst 3, 1), (41, .invokevirtual 451, 3), (44, .ifCond .ne 14, 3), (47, .aload_n 0, 1)], [(48, .aload_n 0, 1), (49, .getfield 35, 3), (52, .invokevirtual 367, 3), (55, .goto 52, 3), (58, .aload_n 0, 1), (59, .getfield 132, 3), (62, .ifCond .le 45, 3)], [(65, .aload_n 0, 1), (66, .aload_n 0, 1), (67, .getfield 132, 3), (70, .invokevirtual 451, 3), (73, .istore 5, 2), (75, .iload_n 3, 1), (76, .aload_n 0, 1), (77, .aload_n 0, 1), (78, .getfield 35, 3)], [(81, .iload 5, 2), (83, .aload_n 0, 1), (84, .aload_n 0, 1), (85, .getfield 125, 3), (88, .invokevirtual 451, 3), (91, .invokevirtual 355, 3), (94, .ifCond .lt 7, 3)], [(97, .iconst 1, 1), (98, .goto 4, 3), (101, .iconst 0, 1), (102, .invokestatic 165, 3), (105, .iadd, 1), (106, .istore_n 3, 1), (107, .iinc 4 1, 3), (110, .goto (-77), 3)], [(113, .iconst 0, 1), (114, .istore 4, 2), (116, .iconst 0, 1), (117, .istore 5, 2), (119, .iload 5, 2), (121, .aload_n 0, 1), (122, .getfield 125, 3), (125, .if_icmp .ge 54, 3)], [(128, .iconst 0, 1), (129, .istore 6, 2), (131, .iload 6, 2), (133, .aload_n 0, 1), (134, .getfield 125, 3), (137, .if_icmp .ge 36, 3), (140, .iload 4, 2), (142, .iload 5, 2)], [(144, .iload 6, 2), (146, .if_icmp .ne 7, 3), (149, .iconst 0, 1), (150, .goto 14, 3), (153, .aload_n 0, 1), (154, .getfield 35, 3), (157, .iload 5, 2), (159, .iload 6, 2)], [(161, .invokestatic 143, 3), (164, .iadd, 1), (165, .istore 4, 2), (167, .iinc 6 1, 3), (170, .goto (-39), 3), (173, .iinc 5 1, 3)], [(176, .goto (-57), 3), (179, .aload_n 0, 1), (180, .iconst 0, 1), (181, .putfield 122, 3), (184, .aload_n 0, 1), (185, .aload_n 0, 1), (186, .getfield 35, 3), (189, .bipush 94, 2), (191, .iaload, 1)], [(192, .invokestatic 265, 3), (195, .i2l, 1), (196, .invokevirtual 361, 3), (199, .aload_n 0, 1), (200, .iload 4, 2), (202, .i2l, 1), (203, .invokevirtual 361, 3), (206, .iload_n 3, 1), (207, .ireturn, 1)]]
def im_264 : List (List (Nat × Instr × Nat)) := [[(0, .aload_n 0, 1), (1, .iconst 0, 1), (2, .putfield 114, 3), (5, .iload_n 1, 1), (6, .i2l, 1), (7, .lconst 0, 1), (8, .ldc2_w 315, 3), (11, .invokestatic 128, 3), (14, .ifCond .ne 5, 3)], [(17, .iconst 0, 1), (18, .ireturn, 1), (19, .aload_n 0, 1), (20, .getfield 104, 3), (23, .iload_n 1, 1), (24, .iconst 1, 1), (25, .bastore, 1), (26, .aload_n 0, 1), (27, .getfield 108, 3), (30, .iload_n 1, 1), (31, .aload_n 0, 1)], [(32, .getfield 220, 3), (35, .iastore, 1), (36, .iconst 0, 1), (37, .istore_n 2, 1), (38, .iload_n 2, 1), (39, .bipush 96, 2), (41, .if_icmp .ge 26, 3), (44, .aload_n 0, 1), (45, .getfield 111, 3)], [(48, .bipush 96, 2), (50, .iload_n 1, 1), (51, .imul, 1), (52, .iload_n 2, 1), (53, .iadd, 1), (54, .aload_n 0, 1), (55, .getfield 32, 3), (58, .iload_n 2, 1), (59, .iaload, 1), (60, .iastore, 1), (61, .iinc 2 1, 3)], [(64, .goto (-26), 3), (67, .iconst 1, 1), (68, .ireturn, 1)]]
def im_265 : List (List (Nat × Instr × Nat)) := [[(0, .aload_n 0, 1), (1, .iconst 0, 1), (2, .putfield 114, 3), (5, .iload_n 1, 1), (6, .i2l, 1), (7, .lconst 0, 1), (8, .ldc2_w 315, 3), (11, .invokestatic 128, 3), (14, .ifCond .eq 25, 3)], [(17, .aload_n 0, 1), (18, .getfield 104, 3), (21, .iload_n 1, 1), (22, .baload, 1), (23, .ifCond .eq 16, 3), (26, .aload_n 0, 1), (27, .getfield 108, 3), (30, .iload_n 1, 1), (31, .iaload, 1)], [(32, .aload_n 0, 1), (33, .getfield 220, 3), (36, .if_icmp .eq 5, 3), (39, .iconst 0, 1), (40, .ireturn, 1), (41, .iconst 0, 1), (42, .istore_n 2, 1), (43, .iload_n 2, 1), (44, .bipush 96, 2), (46, .if_icmp .ge 26, 3)], [(49, .aload_n 0, 1), (50, .getfield 32, 3), (53, .iload_n 2, 1), (54, .aload_n 0, 1), (55, .getfield 111, 3), (58, .bipush 96, 2), (60, .iload_n 1, 1), (61, .imul, 1), (62, .iload_n 2, 1), (63, .iadd, 1)], [(64, .iaload, 1), (65, .iastore, 1), (66, .iinc 2 1, 3), (69, .goto (-26), 3), (72, .aload_n 0, 1), (73, .iconst 0, 1), (74, .putfield 217, 3), (77, .iconst 1, 1), (78, .ireturn, 1)]]
def im_266 : List (List (Nat × Instr × Nat)) := [[(0, .iconst 0, 1), (1, .istore_n 2, 1), (2, .iconst 0, 1), (3, .istore_n 3, 1), (4, .iload_n 3, 1), (5, .aload_n 0, 1), (6, .getfield 125, 3), (9, .if_icmp .ge 90, 3), (12, .iload_n 3, 1), (13, .iconst 1, 1), (14, .iadd, 1), (15, .istore 4, 2)], [(17, .iload 4, 2), (19, .aload_n 0, 1), (20, .getfield 125, 3), (23, .if_icmp .ge 70, 3), (26, .iload_n 2, 1), (27, .iload_n 1, 1), (28, .ifCond .ne 16, 3), (31, .aload_n 0, 1)], [(32, .getfield 32, 3), (35, .iload_n 3, 1), (36, .iload 4, 2), (38, .invokestatic 280, 3), (41, .goto 41, 3), (44, .iload_n 1, 1), (45, .iconst 1, 1), (46, .if_icmp .ne 16, 3)], [(49, .aload_n 0, 1), (50, .getfield 32, 3), (53, .iload_n 3, 1), (54, .iload 4, 2), (56, .invokestatic 284, 3), (59, .goto 23, 3), (62, .aload_n 0, 1), (63, .getfield 29, 3)], [(66, .bipush 6, 2), (68, .iload_n 3, 1), (69, .imul, 1), (70, .iload 4, 2), (72, .iadd, 1), (73, .iaload, 1), (74, .ifCond .le 7, 3), (77, .iconst 1, 1), (78, .goto 4, 3)], [(81, .iconst 0, 1), (82, .invokestatic 165, 3), (85, .iadd, 1), (86, .istore_n 2, 1), (87, .iinc 4 1, 3), (90, .goto (-73), 3), (93, .iinc 3 1, 3)], [(96, .goto (-92), 3), (99, .iload_n 2, 1), (100, .ireturn, 1)]]
def im_267 : List (List (Nat × Instr × Nat)) := [[(0, .aload_n 0, 1), (1, .iconst 0, 1), (2, .putfield 114, 3), (5, .iload_n 1, 1), (6, .tableswitch 167 0 12 #[66, 71, 76, 84, 93, 101, 107, 113, 141, 147, 152, 157, 162], 66)], [], [], [], [(72, .aload_n 0, 1), (73, .getfield 125, 3), (76, .ireturn, 1), (77, .aload_n 0, 1), (78, .getfield 132, 3)], [(81, .ireturn, 1), (82, .aload_n 0, 1), (83, .getfield 32, 3), (86, .bipush 95, 2), (88, .iaload, 1), (89, .ireturn, 1), (90, .aload_n 0, 1), (91, .aload_n 0, 1), (92, .getfield 32, 3), (95, .invokevirtual 324, 3)], [(98, .ireturn, 1), (99, .aload_n 0, 1), (100, .getfield 32, 3), (103, .bipush 94, 2), (105, .iaload, 1), (106, .ireturn, 1), (107, .aload_n 0, 1), (108, .iconst 0, 1), (109, .invokevirtual 454, 3)], [(112, .ireturn, 1), (113, .aload_n 0, 1), (114, .iconst 1, 1), (115, .invokevirtual 454, 3), (118, .ireturn, 1), (119, .iconst 0, 1), (120, .istore_n 2, 1), (121, .iconst 0, 1), (122, .istore_n 3, 1), (123, .iload_n 3, 1), (124, .aload_n 0, 1), (125, .getfield 125, 3)], [(128, .if_icmp .ge 17, 3), (131, .iload_n 2, 1), (132, .aload_n 0, 1), (133, .iload_n 3, 1), (134, .invokevirtual 309, 3), (137, .iadd, 1), (138, .istore_n 2, 1), (139, .iinc 3 1, 3), (142, .goto (-19), 3)], [(145, .iload_n 2, 1), (146, .ireturn, 1), (147, .aload_n 0, 1), (148, .iconst 2, 1), (149, .invokevirtual 454, 3), (152, .ireturn, 1), (153, .aload_n 0, 1), (154, .getfield 426, 3), (157, .ireturn, 1), (158, .aload_n 0, 1), (159, .getfield 217, 3)], [(162, .ireturn, 1), (163, .aload_n 0, 1), (164, .getfield 122, 3), (167, .ireturn, 1), (168, .aload_n 0, 1), (169, .getfield 147, 3), (172, .ireturn, 1), (173, .bipush (-100), 2), (175, .ireturn, 1)]]
def im_268 : List (List (Nat × Instr × Nat)) := [[(0, .aload_n 0, 1), (1, .iconst 0, 1), (2, .putfield 114, 3), (5, .iload_n 1, 1), (6, .i2l, 1), (7, .lconst 0, 1), (8, .aload_n 0, 1), (9, .getfield 122, 3), (12, .iconst 1, 1), (13, .isub, 1), (14, .i2l, 1), (15, .invokestatic 128, 3)], [(18, .ifCond .ne 10, 3), (21, .aload_n 0, 1), (22, .iconst 1, 1), (23, .putfield 114, 3), (26, .lconst 0, 1), (27, .lreturn, 1), (28, .aload_n 0, 1), (29, .getfield 9, 3)], [(32, .iload_n 1, 1), (33, .laload, 1), (34, .lreturn, 1)]]
def im_269 : List (List (Nat × Instr × Nat)) := [[(0, .iload_n 0, 1), (1, .iconst (-1), 1), (2, .ixor, 1), (3, .iload_n 0, 1), (4, .iconst 1, 1), (5, .isub, 1), (6, .iand, 1), (7, .istore_n 0, 1), (8, .iload_n 0, 1), (9, .ifCond .gt 8, 3), (12, .iload_n 0, 1), (13, .bipush 32, 2), (15, .iand, 1)], [(16, .ireturn, 1), (17, .iconst 1, 1), (18, .istore_n 1, 1), (19, .iload_n 0, 1), (20, .ldc_w 264, 3), (23, .if_icmp .le 11, 3), (26, .iinc 1 16, 3), (29, .iload_n 0, 1), (30, .bipush 16, 2)], [(32, .iushr, 1), (33, .istore_n 0, 1), (34, .iload_n 0, 1), (35, .sipush 256, 3), (38, .if_icmp .le 11, 3), (41, .iinc 1 8, 3), (44, .iload_n 0, 1), (45, .bipush 8, 2), (47, .iushr, 1)], [(48, .istore_n 0, 1), (49, .iload_n 0, 1), (50, .bipush 16, 2), (52, .if_icmp .le 10, 3), (55, .iinc 1 4, 3), (58, .iload_n 0, 1), (59, .iconst 4, 1), (60, .iushr, 1), (61, .istore_n 0, 1), (62, .iload_n 0, 1), (63, .iconst 4, 1)], [(64, .if_icmp .le 10, 3), (67, .iinc 1 2, 3), (70, .iload_n 0, 1), (71, .iconst 2, 1), (72, .iushr, 1), (73, .istore_n 0, 1), (74, .iload_n 1, 1), (75, .iload_n 0, 1), (76, .iconst 1, 1), (77, .iushr, 1), (78, .iadd, 1), (79, .ireturn, 1)]]
def im_270 : List (List (Nat × Instr × Nat)) := [[(0, .iload_n 0, 1), (1, .iload_n 0, 1), (2, .iconst 1, 1), (3, .iushr, 1), (4, .ldc_w 265, 3), (7, .iand, 1), (8, .isub, 1), (9, .istore_n 0, 1), (10, .iload_n 0, 1), (11, .ldc_w 266, 3), (14, .iand, 1), (15, .iload_n 0, 1)], [(16, .iconst 2, 1), (17, .iushr, 1), (18, .ldc_w 266, 3), (21, .iand, 1), (22, .iadd, 1), (23, .istore_n 0, 1), (24, .iload_n 0, 1), (25, .iload_n 0, 1), (26, .iconst 4, 1), (27, .iushr, 1), (28, .iadd, 1), (29, .ldc_w 267, 3)], [(32, .iand, 1), (33, .istore_n 0, 1), (34, .iload_n 0, 1), (35, .iload_n 0, 1), (36, .bipush 8, 2), (38, .iushr, 1), (39, .iadd, 1), (40, .istore_n 0, 1), (41, .iload_n 0, 1), (42, .iload_n 0, 1), (43, .bipush 16, 2), (45, .iushr, 1), (46, .iadd, 1), (47, .istore_n 0, 1)], [(48, .iload_n 0, 1), (49, .bipush 63, 2), (51, .iand, 1), (52, .ireturn, 1)]]
def imL_court : List (List (Nat × Instr × Nat)) := [[(0, .aload_n 3, 1), (1, .iconst 0, 1), (2, .aload_n 0, 1), (3, .iload_n 1, 1), (4, .iload_n 2, 1), (5, .invokevirtual 7, 3), (8, .i2l, 1), (9, .lastore, 1), (10, .goto 7, 3), (13, .astore 4, 2), (15, .iconst 1, 1)], [(16, .ireturn, 1), (17, .iconst 0, 1), (18, .ireturn, 1)]]
def imL_between : List (List (Nat × Instr × Nat)) := [[(0, .aload 4, 2), (2, .iconst 0, 1), (3, .aload_n 0, 1), (4, .iload_n 1, 1), (5, .iload_n 2, 1), (6, .iload_n 3, 1), (7, .invokevirtual 15, 3), (10, .i2l, 1), (11, .lastore, 1), (12, .goto 7, 3), (15, .astore 5, 2)], [(17, .iconst 1, 1), (18, .ireturn, 1), (19, .iconst 0, 1), (20, .ireturn, 1)]]
def imL_gift : List (List (Nat × Instr × Nat)) := [[(0, .aload_n 3, 1), (1, .iconst 0, 1), (2, .aload_n 0, 1), (3, .iload_n 1, 1), (4, .iload_n 2, 1), (5, .invokevirtual 19, 3), (8, .i2l, 1), (9, .lastore, 1), (10, .goto 7, 3), (13, .astore 4, 2), (15, .iconst 1, 1)], [(16, .ireturn, 1), (17, .iconst 0, 1), (18, .ireturn, 1)]]
def imL_row : List (List (Nat × Instr × Nat)) := [[(0, .aload_n 2, 1), (1, .iconst 0, 1), (2, .aload_n 0, 1), (3, .iload_n 1, 1), (4, .invokevirtual 22, 3), (7, .lastore, 1), (8, .goto 6, 3), (11, .astore_n 3, 1), (12, .iconst 1, 1), (13, .ireturn, 1), (14, .iconst 0, 1), (15, .ireturn, 1)]]
def imL_law : List (List (Nat × Instr × Nat)) := [[(0, .new 8, 3), (3, .dup, 1), (4, .invokespecial 26, 3), (7, .astore_n 1, 1), (8, .new 27, 3), (11, .dup, 1), (12, .invokespecial 29, 3), (15, .astore_n 2, 1)], [(16, .iconst 1, 1), (17, .newarray .long, 2), (19, .astore_n 3, 1), (20, .iconst 0, 1), (21, .istore 4, 2), (23, .iload 4, 2), (25, .aload_n 0, 1), (26, .arraylength, 1), (27, .iconst 5, 1), (28, .isub, 1), (29, .if_icmp .gt 1420, 3)], [(32, .aload_n 0, 1), (33, .iload 4, 2), (35, .iaload, 1), (36, .bipush 63, 2), (38, .iand, 1), (39, .tableswitch 1404 0 42 #[185, 210, 235, 248, 261, 274, 314, 366, 406, 455, 516, 553, 578, 627, 664, 677, 690, 727, 752, 789, 826, 851, 864, 901, 962, 1011, 1036, 1073, 1098, 1111, 1124, 1137, 1150, 1187, 1200, 1213, 1226, 1239, 1264, 1301, 1326, 1351, 1376], 185)], [], [], [], [], [], [], [], [], [], [], [], [(224, .aload_n 1, 1), (225, .aload_n 0, 1), (226, .iload 4, 2), (228, .iconst 1, 1), (229, .iadd, 1), (230, .iaload, 1), (231, .invokevirtual 30, 3), (234, .pop, 1), (235, .aload_n 2, 1), (236, .aload_n 0, 1), (237, .iload 4, 2), (239, .iconst 1, 1)], [(240, .iadd, 1), (241, .iaload, 1), (242, .invokevirtual 34, 3), (245, .pop, 1), (246, .goto 1197, 3), (249, .aload_n 1, 1), (250, .aload_n 0, 1), (251, .iload 4, 2), (253, .iconst 1, 1), (254, .iadd, 1), (255, .iaload, 1)], [(256, .invokevirtual 35, 3), (259, .aload_n 2, 1), (260, .aload_n 0, 1), (261, .iload 4, 2), (263, .iconst 1, 1), (264, .iadd, 1), (265, .iaload, 1), (266, .invokevirtual 39, 3), (269, .if_icmp .eq 1174, 3)], [(272, .iconst 0, 1), (273, .ireturn, 1), (274, .aload_n 1, 1), (275, .invokevirtual 40, 3), (278, .pop, 1), (279, .aload_n 2, 1), (280, .invokevirtual 44, 3), (283, .pop, 1), (284, .goto 1159, 3), (287, .aload_n 1, 1)], [(288, .invokevirtual 45, 3), (291, .pop, 1), (292, .aload_n 2, 1), (293, .invokevirtual 48, 3), (296, .pop, 1), (297, .goto 1146, 3), (300, .aload_n 1, 1), (301, .invokevirtual 49, 3)], [(304, .pop, 1), (305, .aload_n 2, 1), (306, .invokevirtual 52, 3), (309, .pop, 1), (310, .goto 1133, 3), (313, .aload_n 1, 1), (314, .aload_n 0, 1), (315, .iload 4, 2), (317, .iconst 1, 1), (318, .iadd, 1), (319, .iaload, 1)], [(320, .aload_n 0, 1), (321, .iload 4, 2), (323, .iconst 2, 1), (324, .iadd, 1), (325, .iaload, 1), (326, .aload_n 3, 1), (327, .invokestatic 53, 3), (330, .istore 5, 2), (332, .aload_n 2, 1), (333, .aload_n 0, 1), (334, .iload 4, 2)], [(336, .iconst 1, 1), (337, .iadd, 1), (338, .iaload, 1), (339, .aload_n 0, 1), (340, .iload 4, 2), (342, .iconst 2, 1), (343, .iadd, 1), (344, .iaload, 1), (345, .invokevirtual 58, 3), (348, .istore 6, 2), (350, .goto 1093, 3)], [(353, .aload_n 1, 1), (354, .aload_n 0, 1), (355, .iload 4, 2), (357, .iconst 1, 1), (358, .iadd, 1), (359, .iaload, 1), (360, .aload_n 0, 1), (361, .iload 4, 2), (363, .iconst 2, 1), (364, .iadd, 1), (365, .iaload, 1), (366, .aload_n 0, 1), (367, .iload 4, 2)], [(369, .iconst 3, 1), (370, .iadd, 1), (371, .iaload, 1), (372, .aload_n 3, 1), (373, .invokestatic 59, 3), (376, .istore 5, 2), (378, .aload_n 2, 1), (379, .aload_n 0, 1), (380, .iload 4, 2), (382, .iconst 1, 1), (383, .iadd, 1)], [(384, .iaload, 1), (385, .aload_n 0, 1), (386, .iload 4, 2), (388, .iconst 2, 1), (389, .iadd, 1), (390, .iaload, 1), (391, .aload_n 0, 1), (392, .iload 4, 2), (394, .iconst 3, 1), (395, .iadd, 1), (396, .iaload, 1), (397, .invokevirtual 62, 3)], [(400, .istore 6, 2), (402, .goto 1041, 3), (405, .aload_n 1, 1), (406, .aload_n 0, 1), (407, .iload 4, 2), (409, .iconst 1, 1), (410, .iadd, 1), (411, .iaload, 1), (412, .aload_n 0, 1), (413, .iload 4, 2), (415, .iconst 2, 1)], [(416, .iadd, 1), (417, .iaload, 1), (418, .aload_n 3, 1), (419, .invokestatic 63, 3), (422, .istore 5, 2), (424, .aload_n 2, 1), (425, .aload_n 0, 1), (426, .iload 4, 2), (428, .iconst 1, 1), (429, .iadd, 1), (430, .iaload, 1), (431, .aload_n 0, 1)], [(432, .iload 4, 2), (434, .iconst 2, 1), (435, .iadd, 1), (436, .iaload, 1), (437, .invokevirtual 65, 3), (440, .istore 6, 2), (442, .goto 1001, 3), (445, .aload_n 1, 1), (446, .aload_n 0, 1), (447, .iload 4, 2)], [(449, .iconst 1, 1), (450, .iadd, 1), (451, .iaload, 1), (452, .aload_n 0, 1), (453, .iload 4, 2), (455, .iconst 2, 1), (456, .iadd, 1), (457, .iaload, 1), (458, .aload_n 0, 1), (459, .iload 4, 2), (461, .iconst 3, 1), (462, .iadd, 1), (463, .iaload, 1)], [(464, .invokevirtual 66, 3), (467, .pop, 1), (468, .aload_n 2, 1), (469, .aload_n 0, 1), (470, .iload 4, 2), (472, .iconst 1, 1), (473, .iadd, 1), (474, .iaload, 1), (475, .aload_n 0, 1), (476, .iload 4, 2), (478, .iconst 2, 1), (479, .iadd, 1)], [(480, .iaload, 1), (481, .aload_n 0, 1), (482, .iload 4, 2), (484, .iconst 3, 1), (485, .iadd, 1), (486, .iaload, 1), (487, .invokevirtual 69, 3), (490, .pop, 1), (491, .goto 952, 3), (494, .aload_n 1, 1), (495, .aload_n 0, 1)], [(496, .iload 4, 2), (498, .iconst 1, 1), (499, .iadd, 1), (500, .iaload, 1), (501, .aload_n 0, 1), (502, .iload 4, 2), (504, .iconst 2, 1), (505, .iadd, 1), (506, .iaload, 1), (507, .aload_n 0, 1), (508, .iload 4, 2), (510, .iconst 3, 1), (511, .iadd, 1)], [(512, .iaload, 1), (513, .aload_n 0, 1), (514, .iload 4, 2), (516, .iconst 4, 1), (517, .iadd, 1), (518, .iaload, 1), (519, .invokevirtual 70, 3), (522, .pop, 1), (523, .aload_n 2, 1), (524, .aload_n 0, 1), (525, .iload 4, 2), (527, .iconst 1, 1)], [(528, .iadd, 1), (529, .iaload, 1), (530, .aload_n 0, 1), (531, .iload 4, 2), (533, .iconst 2, 1), (534, .iadd, 1), (535, .iaload, 1), (536, .aload_n 0, 1), (537, .iload 4, 2), (539, .iconst 3, 1), (540, .iadd, 1), (541, .iaload, 1), (542, .aload_n 0, 1), (543, .iload 4, 2)], [(545, .iconst 4, 1), (546, .iadd, 1), (547, .iaload, 1), (548, .invokevirtual 74, 3), (551, .pop, 1), (552, .goto 891, 3), (555, .aload_n 1, 1), (556, .aload_n 0, 1), (557, .iload 4, 2), (559, .iconst 1, 1)], [(560, .iadd, 1), (561, .iaload, 1), (562, .aload_n 0, 1), (563, .iload 4, 2), (565, .iconst 2, 1), (566, .iadd, 1), (567, .iaload, 1), (568, .invokevirtual 75, 3), (571, .pop, 1), (572, .aload_n 2, 1), (573, .aload_n 0, 1), (574, .iload 4, 2)], [(576, .iconst 1, 1), (577, .iadd, 1), (578, .iaload, 1), (579, .aload_n 0, 1), (580, .iload 4, 2), (582, .iconst 2, 1), (583, .iadd, 1), (584, .iaload, 1), (585, .invokevirtual 78, 3), (588, .pop, 1), (589, .goto 854, 3)], [(592, .aload_n 1, 1), (593, .aload_n 0, 1), (594, .iload 4, 2), (596, .iconst 1, 1), (597, .iadd, 1), (598, .iaload, 1), (599, .invokevirtual 79, 3), (602, .pop, 1), (603, .aload_n 2, 1), (604, .aload_n 0, 1), (605, .iload 4, 2), (607, .iconst 1, 1)], [(608, .iadd, 1), (609, .iaload, 1), (610, .invokevirtual 82, 3), (613, .pop, 1), (614, .goto 829, 3), (617, .aload_n 1, 1), (618, .aload_n 0, 1), (619, .iload 4, 2), (621, .iconst 1, 1), (622, .iadd, 1), (623, .iaload, 1)], [(624, .aload_n 0, 1), (625, .iload 4, 2), (627, .iconst 2, 1), (628, .iadd, 1), (629, .iaload, 1), (630, .aload_n 0, 1), (631, .iload 4, 2), (633, .iconst 3, 1), (634, .iadd, 1), (635, .iaload, 1), (636, .invokevirtual 83, 3), (639, .pop, 1)], [(640, .aload_n 2, 1), (641, .aload_n 0, 1), (642, .iload 4, 2), (644, .iconst 1, 1), (645, .iadd, 1), (646, .iaload, 1), (647, .aload_n 0, 1), (648, .iload 4, 2), (650, .iconst 2, 1), (651, .iadd, 1), (652, .iaload, 1), (653, .aload_n 0, 1), (654, .iload 4, 2)], [(656, .iconst 3, 1), (657, .iadd, 1), (658, .iaload, 1), (659, .invokevirtual 86, 3), (662, .pop, 1), (663, .goto 780, 3), (666, .aload_n 1, 1), (667, .aload_n 0, 1), (668, .iload 4, 2), (670, .iconst 1, 1), (671, .iadd, 1)], [(672, .iaload, 1), (673, .aload_n 0, 1), (674, .iload 4, 2), (676, .iconst 2, 1), (677, .iadd, 1), (678, .iaload, 1), (679, .invokevirtual 87, 3), (682, .pop, 1), (683, .aload_n 2, 1), (684, .aload_n 0, 1), (685, .iload 4, 2), (687, .iconst 1, 1)], [(688, .iadd, 1), (689, .iaload, 1), (690, .aload_n 0, 1), (691, .iload 4, 2), (693, .iconst 2, 1), (694, .iadd, 1), (695, .iaload, 1), (696, .invokevirtual 90, 3), (699, .pop, 1), (700, .goto 743, 3), (703, .aload_n 1, 1)], [(704, .invokevirtual 91, 3), (707, .pop, 1), (708, .aload_n 2, 1), (709, .invokevirtual 94, 3), (712, .pop, 1), (713, .goto 730, 3), (716, .aload_n 1, 1), (717, .invokevirtual 95, 3)], [(720, .pop, 1), (721, .aload_n 2, 1), (722, .invokevirtual 98, 3), (725, .pop, 1), (726, .goto 717, 3), (729, .aload_n 1, 1), (730, .aload_n 0, 1), (731, .iload 4, 2), (733, .iconst 1, 1), (734, .iadd, 1), (735, .iaload, 1)], [(736, .aload_n 0, 1), (737, .iload 4, 2), (739, .iconst 2, 1), (740, .iadd, 1), (741, .iaload, 1), (742, .invokevirtual 99, 3), (745, .pop, 1), (746, .aload_n 2, 1), (747, .aload_n 0, 1), (748, .iload 4, 2), (750, .iconst 1, 1), (751, .iadd, 1)], [(752, .iaload, 1), (753, .aload_n 0, 1), (754, .iload 4, 2), (756, .iconst 2, 1), (757, .iadd, 1), (758, .iaload, 1), (759, .invokevirtual 102, 3), (762, .pop, 1), (763, .goto 680, 3), (766, .aload_n 1, 1), (767, .aload_n 0, 1)], [(768, .iload 4, 2), (770, .iconst 1, 1), (771, .iadd, 1), (772, .iaload, 1), (773, .invokevirtual 103, 3), (776, .pop, 1), (777, .aload_n 2, 1), (778, .aload_n 0, 1), (779, .iload 4, 2), (781, .iconst 1, 1), (782, .iadd, 1), (783, .iaload, 1)], [(784, .invokevirtual 106, 3), (787, .pop, 1), (788, .goto 655, 3), (791, .aload_n 1, 1), (792, .aload_n 0, 1), (793, .iload 4, 2), (795, .iconst 1, 1), (796, .iadd, 1), (797, .iaload, 1), (798, .aload_n 0, 1), (799, .iload 4, 2)], [(801, .iconst 2, 1), (802, .iadd, 1), (803, .iaload, 1), (804, .invokevirtual 107, 3), (807, .pop, 1), (808, .aload_n 2, 1), (809, .aload_n 0, 1), (810, .iload 4, 2), (812, .iconst 1, 1), (813, .iadd, 1), (814, .iaload, 1), (815, .aload_n 0, 1)], [(816, .iload 4, 2), (818, .iconst 2, 1), (819, .iadd, 1), (820, .iaload, 1), (821, .invokevirtual 110, 3), (824, .pop, 1), (825, .goto 618, 3), (828, .aload_n 1, 1), (829, .aload_n 0, 1), (830, .iload 4, 2)], [(832, .iconst 1, 1), (833, .iadd, 1), (834, .iaload, 1), (835, .aload_n 0, 1), (836, .iload 4, 2), (838, .iconst 2, 1), (839, .iadd, 1), (840, .iaload, 1), (841, .invokevirtual 111, 3), (844, .pop, 1), (845, .aload_n 2, 1), (846, .aload_n 0, 1), (847, .iload 4, 2)], [(849, .iconst 1, 1), (850, .iadd, 1), (851, .iaload, 1), (852, .aload_n 0, 1), (853, .iload 4, 2), (855, .iconst 2, 1), (856, .iadd, 1), (857, .iaload, 1), (858, .invokevirtual 114, 3), (861, .pop, 1), (862, .goto 581, 3)], [(865, .aload_n 1, 1), (866, .aload_n 0, 1), (867, .iload 4, 2), (869, .iconst 1, 1), (870, .iadd, 1), (871, .iaload, 1), (872, .invokevirtual 115, 3), (875, .pop, 1), (876, .aload_n 2, 1), (877, .aload_n 0, 1), (878, .iload 4, 2)], [(880, .iconst 1, 1), (881, .iadd, 1), (882, .iaload, 1), (883, .invokevirtual 118, 3), (886, .pop, 1), (887, .goto 556, 3), (890, .aload_n 1, 1), (891, .invokevirtual 119, 3), (894, .pop, 1), (895, .aload_n 2, 1)], [(896, .invokevirtual 122, 3), (899, .pop, 1), (900, .goto 543, 3), (903, .aload_n 1, 1), (904, .aload_n 0, 1), (905, .iload 4, 2), (907, .iconst 1, 1), (908, .iadd, 1), (909, .iaload, 1), (910, .aload_n 0, 1), (911, .iload 4, 2)], [(913, .iconst 2, 1), (914, .iadd, 1), (915, .iaload, 1), (916, .invokevirtual 123, 3), (919, .pop, 1), (920, .aload_n 2, 1), (921, .aload_n 0, 1), (922, .iload 4, 2), (924, .iconst 1, 1), (925, .iadd, 1), (926, .iaload, 1), (927, .aload_n 0, 1)], [(928, .iload 4, 2), (930, .iconst 2, 1), (931, .iadd, 1), (932, .iaload, 1), (933, .invokevirtual 126, 3), (936, .pop, 1), (937, .goto 506, 3), (940, .aload_n 1, 1), (941, .aload_n 0, 1), (942, .iload 4, 2)], [(944, .iconst 1, 1), (945, .iadd, 1), (946, .iaload, 1), (947, .aload_n 0, 1), (948, .iload 4, 2), (950, .iconst 2, 1), (951, .iadd, 1), (952, .iaload, 1), (953, .aload_n 0, 1), (954, .iload 4, 2), (956, .iconst 3, 1), (957, .iadd, 1), (958, .iaload, 1), (959, .aload_n 0, 1)], [(960, .iload 4, 2), (962, .iconst 4, 1), (963, .iadd, 1), (964, .iaload, 1), (965, .invokevirtual 127, 3), (968, .pop, 1), (969, .aload_n 2, 1), (970, .aload_n 0, 1), (971, .iload 4, 2), (973, .iconst 1, 1), (974, .iadd, 1), (975, .iaload, 1)], [(976, .aload_n 0, 1), (977, .iload 4, 2), (979, .iconst 2, 1), (980, .iadd, 1), (981, .iaload, 1), (982, .aload_n 0, 1), (983, .iload 4, 2), (985, .iconst 3, 1), (986, .iadd, 1), (987, .iaload, 1), (988, .aload_n 0, 1), (989, .iload 4, 2), (991, .iconst 4, 1)], [(992, .iadd, 1), (993, .iaload, 1), (994, .invokevirtual 130, 3), (997, .pop, 1), (998, .goto 445, 3), (1001, .aload_n 1, 1), (1002, .aload_n 0, 1), (1003, .iload 4, 2), (1005, .iconst 1, 1), (1006, .iadd, 1), (1007, .iaload, 1)], [(1008, .aload_n 0, 1), (1009, .iload 4, 2), (1011, .iconst 2, 1), (1012, .iadd, 1), (1013, .iaload, 1), (1014, .aload_n 0, 1), (1015, .iload 4, 2), (1017, .iconst 3, 1), (1018, .iadd, 1), (1019, .iaload, 1), (1020, .invokevirtual 131, 3), (1023, .pop, 1)], [(1024, .aload_n 2, 1), (1025, .aload_n 0, 1), (1026, .iload 4, 2), (1028, .iconst 1, 1), (1029, .iadd, 1), (1030, .iaload, 1), (1031, .aload_n 0, 1), (1032, .iload 4, 2), (1034, .iconst 2, 1), (1035, .iadd, 1), (1036, .iaload, 1), (1037, .aload_n 0, 1), (1038, .iload 4, 2)], [(1040, .iconst 3, 1), (1041, .iadd, 1), (1042, .iaload, 1), (1043, .invokevirtual 134, 3), (1046, .pop, 1), (1047, .goto 396, 3), (1050, .aload_n 1, 1), (1051, .aload_n 0, 1), (1052, .iload 4, 2), (1054, .iconst 1, 1), (1055, .iadd, 1)], [(1056, .iaload, 1), (1057, .invokevirtual 135, 3), (1060, .pop, 1), (1061, .aload_n 2, 1), (1062, .aload_n 0, 1), (1063, .iload 4, 2), (1065, .iconst 1, 1), (1066, .iadd, 1), (1067, .iaload, 1), (1068, .invokevirtual 138, 3), (1071, .pop, 1)], [(1072, .goto 371, 3), (1075, .aload_n 1, 1), (1076, .aload_n 0, 1), (1077, .iload 4, 2), (1079, .iconst 1, 1), (1080, .iadd, 1), (1081, .iaload, 1), (1082, .aload_n 0, 1), (1083, .iload 4, 2), (1085, .iconst 2, 1), (1086, .iadd, 1), (1087, .iaload, 1)], [(1088, .invokevirtual 139, 3), (1091, .pop, 1), (1092, .aload_n 2, 1), (1093, .aload_n 0, 1), (1094, .iload 4, 2), (1096, .iconst 1, 1), (1097, .iadd, 1), (1098, .iaload, 1), (1099, .aload_n 0, 1), (1100, .iload 4, 2), (1102, .iconst 2, 1), (1103, .iadd, 1)], [(1104, .iaload, 1), (1105, .invokevirtual 142, 3), (1108, .pop, 1), (1109, .goto 334, 3), (1112, .aload_n 1, 1), (1113, .aload_n 0, 1), (1114, .iload 4, 2), (1116, .iconst 1, 1), (1117, .iadd, 1), (1118, .iaload, 1), (1119, .invokevirtual 143, 3)], [(1122, .pop, 1), (1123, .aload_n 2, 1), (1124, .aload_n 0, 1), (1125, .iload 4, 2), (1127, .iconst 1, 1), (1128, .iadd, 1), (1129, .iaload, 1), (1130, .invokevirtual 146, 3), (1133, .pop, 1), (1134, .goto 309, 3)], [(1137, .aload_n 1, 1), (1138, .invokevirtual 147, 3), (1141, .pop, 1), (1142, .aload_n 2, 1), (1143, .invokevirtual 150, 3), (1146, .pop, 1), (1147, .goto 296, 3), (1150, .aload_n 1, 1), (1151, .invokevirtual 151, 3)], [(1154, .pop, 1), (1155, .aload_n 2, 1), (1156, .invokevirtual 154, 3), (1159, .pop, 1), (1160, .goto 283, 3), (1163, .aload_n 1, 1), (1164, .invokevirtual 155, 3), (1167, .pop, 1)], [(1168, .aload_n 2, 1), (1169, .invokevirtual 158, 3), (1172, .pop, 1), (1173, .goto 270, 3), (1176, .aload_n 1, 1), (1177, .invokevirtual 159, 3), (1180, .pop, 1), (1181, .aload_n 2, 1), (1182, .invokevirtual 162, 3)], [(1185, .pop, 1), (1186, .goto 257, 3), (1189, .aload_n 1, 1), (1190, .aload_n 0, 1), (1191, .iload 4, 2), (1193, .iconst 1, 1), (1194, .iadd, 1), (1195, .iaload, 1), (1196, .aload_n 0, 1), (1197, .iload 4, 2), (1199, .iconst 2, 1)], [(1200, .iadd, 1), (1201, .iaload, 1), (1202, .invokevirtual 163, 3), (1205, .pop, 1), (1206, .aload_n 2, 1), (1207, .aload_n 0, 1), (1208, .iload 4, 2), (1210, .iconst 1, 1), (1211, .iadd, 1), (1212, .iaload, 1), (1213, .aload_n 0, 1), (1214, .iload 4, 2)], [(1216, .iconst 2, 1), (1217, .iadd, 1), (1218, .iaload, 1), (1219, .invokevirtual 166, 3), (1222, .pop, 1), (1223, .goto 220, 3), (1226, .aload_n 1, 1), (1227, .invokevirtual 167, 3), (1230, .pop, 1), (1231, .aload_n 2, 1)], [(1232, .invokevirtual 170, 3), (1235, .pop, 1), (1236, .goto 207, 3), (1239, .aload_n 1, 1), (1240, .invokevirtual 171, 3), (1243, .pop, 1), (1244, .aload_n 2, 1), (1245, .invokevirtual 174, 3)], [(1248, .pop, 1), (1249, .goto 194, 3), (1252, .aload_n 1, 1), (1253, .invokevirtual 175, 3), (1256, .pop, 1), (1257, .aload_n 2, 1), (1258, .invokevirtual 178, 3), (1261, .pop, 1), (1262, .goto 181, 3)], [(1265, .aload_n 1, 1), (1266, .invokevirtual 179, 3), (1269, .pop, 1), (1270, .aload_n 2, 1), (1271, .invokevirtual 182, 3), (1274, .pop, 1), (1275, .goto 168, 3), (1278, .aload_n 1, 1), (1279, .aload_n 0, 1)], [(1280, .iload 4, 2), (1282, .iconst 1, 1), (1283, .iadd, 1), (1284, .iaload, 1), (1285, .invokevirtual 183, 3), (1288, .pop, 1), (1289, .aload_n 2, 1), (1290, .aload_n 0, 1), (1291, .iload 4, 2), (1293, .iconst 1, 1), (1294, .iadd, 1), (1295, .iaload, 1)], [(1296, .invokevirtual 186, 3), (1299, .pop, 1), (1300, .goto 143, 3), (1303, .aload_n 1, 1), (1304, .aload_n 0, 1), (1305, .iload 4, 2), (1307, .iconst 1, 1), (1308, .iadd, 1), (1309, .iaload, 1), (1310, .aload_n 0, 1), (1311, .iload 4, 2)], [(1313, .iconst 2, 1), (1314, .iadd, 1), (1315, .iaload, 1), (1316, .invokevirtual 187, 3), (1319, .pop, 1), (1320, .aload_n 2, 1), (1321, .aload_n 0, 1), (1322, .iload 4, 2), (1324, .iconst 1, 1), (1325, .iadd, 1), (1326, .iaload, 1), (1327, .aload_n 0, 1)], [(1328, .iload 4, 2), (1330, .iconst 2, 1), (1331, .iadd, 1), (1332, .iaload, 1), (1333, .invokevirtual 190, 3), (1336, .pop, 1), (1337, .goto 106, 3), (1340, .aload_n 1, 1), (1341, .aload_n 0, 1), (1342, .iload 4, 2)], [(1344, .iconst 1, 1), (1345, .iadd, 1), (1346, .iaload, 1), (1347, .invokevirtual 191, 3), (1350, .pop, 1), (1351, .aload_n 2, 1), (1352, .aload_n 0, 1), (1353, .iload 4, 2), (1355, .iconst 1, 1), (1356, .iadd, 1), (1357, .iaload, 1), (1358, .invokevirtual 194, 3)], [(1361, .pop, 1), (1362, .goto 81, 3), (1365, .aload_n 1, 1), (1366, .aload_n 0, 1), (1367, .iload 4, 2), (1369, .iconst 1, 1), (1370, .iadd, 1), (1371, .iaload, 1), (1372, .invokevirtual 195, 3), (1375, .pop, 1)], [(1376, .aload_n 2, 1), (1377, .aload_n 0, 1), (1378, .iload 4, 2), (1380, .iconst 1, 1), (1381, .iadd, 1), (1382, .iaload, 1), (1383, .invokevirtual 198, 3), (1386, .pop, 1), (1387, .goto 56, 3), (1390, .aload_n 1, 1), (1391, .aload_n 0, 1)], [(1392, .iload 4, 2), (1394, .iconst 1, 1), (1395, .iadd, 1), (1396, .iaload, 1), (1397, .invokevirtual 199, 3), (1400, .pop, 1), (1401, .aload_n 2, 1), (1402, .aload_n 0, 1), (1403, .iload 4, 2), (1405, .iconst 1, 1), (1406, .iadd, 1), (1407, .iaload, 1)], [(1408, .invokevirtual 202, 3), (1411, .pop, 1), (1412, .goto 31, 3), (1415, .aload_n 1, 1), (1416, .aload_n 0, 1), (1417, .iload 4, 2), (1419, .iconst 1, 1), (1420, .iadd, 1), (1421, .iaload, 1), (1422, .aload_n 3, 1), (1423, .invokestatic 203, 3)], [(1426, .istore 5, 2), (1428, .aload_n 2, 1), (1429, .aload_n 0, 1), (1430, .iload 4, 2), (1432, .iconst 1, 1), (1433, .iadd, 1), (1434, .iaload, 1), (1435, .invokevirtual 206, 3), (1438, .lstore 6, 2)], [(1440, .goto 3, 3), (1443, .iinc 4 5, 3), (1446, .goto (-1423), 3), (1449, .iconst 1, 1), (1450, .ireturn, 1)]]
end MH00listsx4
section MH00listsx5
/-! decode, read in step with the list of the code's bytes -/
theorem dq_bind {α β : Type} {r : Decoder α} {f : α → Decoder β} {A : ByteArray} {p q : Nat} {a : α} (h : r.runAt A p = .ok (a, q)) : (r >>= f).runAt A p = (f a).runAt A q := by
  have e : (r >>= f).runAt A p = (r.runAt A p >>= fun x => (f x.1).runAt A x.2) := rfl
  rw [e, h]; rfl
theorem dq_map {α β : Type} {r : Decoder α} {f : α → β} {A : ByteArray} {p q : Nat} {a : α} (h : r.runAt A p = .ok (a, q)) : (f <$> r : Decoder β).runAt A p = .ok (f a, q) := by
  have e : (f <$> r : Decoder β).runAt A p = (r.runAt A p >>= fun x => .ok (f x.1, x.2)) := rfl
  rw [e, h]; rfl
theorem dq_u1e (A : ByteArray) (p : Nat) (hp : p < A.size) : (Reader.u1 : Decoder Nat).runAt A p = .ok ((A[p]'hp).toNat, p + 1) := by
  have e : (Reader.u1 : Decoder Nat).runAt A p = (if h : p < A.size then (do set (p + 1); pure (A[p]'h).toNat : Decoder Nat) else throw (HasTruncated.truncated p)) A p := rfl
  rw [e, dif_pos hp]; rfl
theorem dq_at (A : ByteArray) (p : Nat) (hp : p < A.size) (hq : p < A.data.toList.length) : A[p]'hp = A.data.toList[p]'hq := by
  cases A with | mk d => cases d with | mk l => rfl
theorem dq_cut {l : List UInt8} {p : Nat} {b : UInt8} {r : List UInt8} (h : l.drop p = b :: r) : ∃ hp : p < l.length, l[p]'hp = b ∧ l.drop (p + 1) = r := by
  have hp : p < l.length := by
    rcases Nat.lt_or_ge p l.length with h1 | h1
    · exact h1
    · rw [List.drop_eq_nil_of_le h1] at h; cases h
  rw [List.drop_eq_getElem_cons hp] at h
  exact ⟨hp, (List.cons.inj h).1, (List.cons.inj h).2⟩
theorem dq_u1 {A : ByteArray} {p : Nat} {b : UInt8} {r : List UInt8} (h : A.data.toList.drop p = b :: r) : (Reader.u1 : Decoder Nat).runAt A p = .ok (b.toNat, p + 1) := by
  obtain ⟨hq, hb, -⟩ := dq_cut h
  have hp : p < A.size := by cases A with | mk d => exact hq
  rw [dq_u1e A p hp, dq_at A p hp hq, hb]
theorem dq_nx {A : ByteArray} {p : Nat} {b : UInt8} {r : List UInt8} (h : A.data.toList.drop p = b :: r) : A.data.toList.drop (p + 1) = r := by
  obtain ⟨-, -, h2⟩ := dq_cut h
  exact h2
theorem dq_s1 {A : ByteArray} {p : Nat} {b : UInt8} {r : List UInt8} (h : A.data.toList.drop p = b :: r) : (Reader.s1 : Decoder Int).runAt A p = .ok (Reader.signed 8 b.toNat, p + 1) := dq_map (dq_u1 h)
theorem dq_u2 {A : ByteArray} {p : Nat} {b c : UInt8} {r : List UInt8} (h : A.data.toList.drop p = b :: c :: r) : (Reader.u2 : Decoder Nat).runAt A p = .ok (b.toNat * 256 + c.toNat, p + 2) := (dq_bind (dq_u1 h)).trans ((dq_bind (dq_u1 (dq_nx h))).trans rfl)
theorem dq_s2 {A : ByteArray} {p : Nat} {b c : UInt8} {r : List UInt8} (h : A.data.toList.drop p = b :: c :: r) : (Reader.s2 : Decoder Int).runAt A p = .ok (Reader.signed 16 (b.toNat * 256 + c.toNat), p + 2) := dq_map (dq_u2 h)
theorem dq_dec {A : ByteArray} {p n : Nat} {i : Instr} (h : (Decoder.instr p).runAt A p = .ok (i, p + n)) : decode A p = .ok (i, n) := by
  unfold decode
  rw [h]
  show Except.ok (i, p + n - p) = Except.ok (i, n)
  rw [Nat.add_sub_cancel_left]
theorem dq_and {a b : Bool} (h : (a && b) = true) : a = true ∧ b = true := Bool.and_eq_true_iff.mp h
theorem dq_f0 {A : ByteArray} {p k n : Nat} {b : UInt8} {r : List UInt8} {i j : Instr} {g : Nat → Decoder Instr} (hg : Decoder.instr p = Reader.u1 >>= g) (hx : ∀ q, (g k).runAt A q = .ok (j, q)) (hd : A.data.toList.drop p = b :: r) (hk : b.toNat = k) (h : (decide (i = j) && Nat.beq n 1) = true) : decode A p = .ok (i, n) := by
  have h1 : i = j := of_decide_eq_true (dq_and h).1
  have h2 : n = 1 := Nat.eq_of_beq_eq_true (dq_and h).2
  rw [h1, h2]
  refine dq_dec ?_
  rw [hg, dq_bind (dq_u1 hd), hk]
  exact hx _
noncomputable def dq_b1 (r : List UInt8) (f : Nat → Bool) : Bool := List.rec (motive := fun _ => Bool) false (fun c _ _ => f c.toNat) r
noncomputable def dq_b2 (r : List UInt8) (f : Nat → Nat → Bool) : Bool := List.rec (motive := fun _ => Bool) false (fun c t _ => dq_b1 t (f c.toNat)) r
theorem dq_b1x {r : List UInt8} {f : Nat → Bool} (h : dq_b1 r f = true) : ∃ c t, r = c :: t ∧ f c.toNat = true := by
  cases r with
  | nil => exact absurd (show false = true from h) (by decide)
  | cons c t => exact ⟨c, t, rfl, h⟩
theorem dq_b2x {r : List UInt8} {f : Nat → Nat → Bool} (h : dq_b2 r f = true) : ∃ c d t, r = c :: d :: t ∧ f c.toNat d.toNat = true := by
  cases r with
  | nil => exact absurd (show false = true from h) (by decide)
  | cons c t =>
    obtain ⟨d, s, e, h2⟩ := dq_b1x (show dq_b1 t (f c.toNat) = true from h)
    exact ⟨c, d, s, by rw [e], h2⟩
theorem dq_f1 {A : ByteArray} {p k n : Nat} {b : UInt8} {r : List UInt8} {i : Instr} {j : Nat → Instr} {g : Nat → Decoder Instr} (hg : Decoder.instr p = Reader.u1 >>= g) (hx : ∀ q (c : UInt8) t, A.data.toList.drop q = c :: t → (g k).runAt A q = .ok (j c.toNat, q + 1)) (hd : A.data.toList.drop p = b :: r) (hk : b.toNat = k) (h : dq_b1 r (fun x => decide (i = j x) && Nat.beq n 2) = true) : decode A p = .ok (i, n) := by
  obtain ⟨c, t, e, h⟩ := dq_b1x h
  have h1 : i = j c.toNat := of_decide_eq_true (dq_and h).1
  have h2 : n = 2 := Nat.eq_of_beq_eq_true (dq_and h).2
  rw [h1, h2]
  refine dq_dec ?_
  rw [hg, dq_bind (dq_u1 hd), hk]
  exact hx _ c t ((dq_nx hd).trans e)
theorem dq_f2 {A : ByteArray} {p k n : Nat} {b : UInt8} {r : List UInt8} {i : Instr} {j : Nat → Nat → Instr} {g : Nat → Decoder Instr} (hg : Decoder.instr p = Reader.u1 >>= g) (hx : ∀ q (c d : UInt8) t, A.data.toList.drop q = c :: d :: t → (g k).runAt A q = .ok (j c.toNat d.toNat, q + 2)) (hd : A.data.toList.drop p = b :: r) (hk : b.toNat = k) (h : dq_b2 r (fun x y => decide (i = j x y) && Nat.beq n 3) = true) : decode A p = .ok (i, n) := by
  obtain ⟨c, d, t, e, h⟩ := dq_b2x h
  have h1 : i = j c.toNat d.toNat := of_decide_eq_true (dq_and h).1
  have h2 : n = 3 := Nat.eq_of_beq_eq_true (dq_and h).2
  rw [h1, h2]
  refine dq_dec ?_
  rw [hg, dq_bind (dq_u1 hd), hk]
  exact hx _ c d t ((dq_nx hd).trans e)
theorem dq_ct {c x y : Bool} (h : cond c x y = true) : (c = true ∧ x = true) ∨ (c = false ∧ y = true) := by
  cases c with
  | true => exact .inl ⟨rfl, h⟩
  | false => exact .inr ⟨rfl, h⟩

theorem dq_L2 {A : ByteArray} {p n : Nat} {b : UInt8} {r : List UInt8} {i : Instr} (hd : A.data.toList.drop p = b :: r) (hk : b.toNat = 2) (h : ((decide (i = .iconst (-1)) && Nat.beq n 1)) = true) : decode A p = .ok (i, n) := dq_f0 (k := 2) rfl (fun _ => rfl) hd hk h
theorem dq_L3 {A : ByteArray} {p n : Nat} {b : UInt8} {r : List UInt8} {i : Instr} (hd : A.data.toList.drop p = b :: r) (hk : b.toNat = 3) (h : ((decide (i = .iconst (0)) && Nat.beq n 1)) = true) : decode A p = .ok (i, n) := dq_f0 (k := 3) rfl (fun _ => rfl) hd hk h
theorem dq_L4 {A : ByteArray} {p n : Nat} {b : UInt8} {r : List UInt8} {i : Instr} (hd : A.data.toList.drop p = b :: r) (hk : b.toNat = 4) (h : ((decide (i = .iconst (1)) && Nat.beq n 1)) = true) : decode A p = .ok (i, n) := dq_f0 (k := 4) rfl (fun _ => rfl) hd hk h
theorem dq_L5 {A : ByteArray} {p n : Nat} {b : UInt8} {r : List UInt8} {i : Instr} (hd : A.data.toList.drop p = b :: r) (hk : b.toNat = 5) (h : ((decide (i = .iconst (2)) && Nat.beq n 1)) = true) : decode A p = .ok (i, n) := dq_f0 (k := 5) rfl (fun _ => rfl) hd hk h
theorem dq_L6 {A : ByteArray} {p n : Nat} {b : UInt8} {r : List UInt8} {i : Instr} (hd : A.data.toList.drop p = b :: r) (hk : b.toNat = 6) (h : ((decide (i = .iconst (3)) && Nat.beq n 1)) = true) : decode A p = .ok (i, n) := dq_f0 (k := 6) rfl (fun _ => rfl) hd hk h
theorem dq_L7 {A : ByteArray} {p n : Nat} {b : UInt8} {r : List UInt8} {i : Instr} (hd : A.data.toList.drop p = b :: r) (hk : b.toNat = 7) (h : ((decide (i = .iconst (4)) && Nat.beq n 1)) = true) : decode A p = .ok (i, n) := dq_f0 (k := 7) rfl (fun _ => rfl) hd hk h
theorem dq_L8 {A : ByteArray} {p n : Nat} {b : UInt8} {r : List UInt8} {i : Instr} (hd : A.data.toList.drop p = b :: r) (hk : b.toNat = 8) (h : ((decide (i = .iconst (5)) && Nat.beq n 1)) = true) : decode A p = .ok (i, n) := dq_f0 (k := 8) rfl (fun _ => rfl) hd hk h
theorem dq_L9 {A : ByteArray} {p n : Nat} {b : UInt8} {r : List UInt8} {i : Instr} (hd : A.data.toList.drop p = b :: r) (hk : b.toNat = 9) (h : ((decide (i = .lconst 0) && Nat.beq n 1)) = true) : decode A p = .ok (i, n) := dq_f0 (k := 9) rfl (fun _ => rfl) hd hk h
theorem dq_L10 {A : ByteArray} {p n : Nat} {b : UInt8} {r : List UInt8} {i : Instr} (hd : A.data.toList.drop p = b :: r) (hk : b.toNat = 10) (h : ((decide (i = .lconst 1) && Nat.beq n 1)) = true) : decode A p = .ok (i, n) := dq_f0 (k := 10) rfl (fun _ => rfl) hd hk h
theorem dq_L16 {A : ByteArray} {p n : Nat} {b : UInt8} {r : List UInt8} {i : Instr} (hd : A.data.toList.drop p = b :: r) (hk : b.toNat = 16) (h : (dq_b1 r (fun x => decide (i = .bipush (Reader.signed 8 x)) && Nat.beq n 2)) = true) : decode A p = .ok (i, n) := dq_f1 (k := 16) rfl (fun _ _ _ h => (dq_bind (dq_s1 h)).trans rfl) hd hk h
theorem dq_L17 {A : ByteArray} {p n : Nat} {b : UInt8} {r : List UInt8} {i : Instr} (hd : A.data.toList.drop p = b :: r) (hk : b.toNat = 17) (h : (dq_b2 r (fun x y => decide (i = .sipush (Reader.signed 16 (x * 256 + y))) && Nat.beq n 3)) = true) : decode A p = .ok (i, n) := dq_f2 (k := 17) rfl (fun _ _ _ _ h => (dq_bind (dq_s2 h)).trans rfl) hd hk h
theorem dq_L18 {A : ByteArray} {p n : Nat} {b : UInt8} {r : List UInt8} {i : Instr} (hd : A.data.toList.drop p = b :: r) (hk : b.toNat = 18) (h : (dq_b1 r (fun x => decide (i = .ldc x) && Nat.beq n 2)) = true) : decode A p = .ok (i, n) := dq_f1 (k := 18) rfl (fun _ _ _ h => (dq_bind (dq_u1 h)).trans rfl) hd hk h
theorem dq_L19 {A : ByteArray} {p n : Nat} {b : UInt8} {r : List UInt8} {i : Instr} (hd : A.data.toList.drop p = b :: r) (hk : b.toNat = 19) (h : (dq_b2 r (fun x y => decide (i = .ldc_w (x * 256 + y)) && Nat.beq n 3)) = true) : decode A p = .ok (i, n) := dq_f2 (k := 19) rfl (fun _ _ _ _ h => (dq_bind (dq_u2 h)).trans rfl) hd hk h
theorem dq_L20 {A : ByteArray} {p n : Nat} {b : UInt8} {r : List UInt8} {i : Instr} (hd : A.data.toList.drop p = b :: r) (hk : b.toNat = 20) (h : (dq_b2 r (fun x y => decide (i = .ldc2_w (x * 256 + y)) && Nat.beq n 3)) = true) : decode A p = .ok (i, n) := dq_f2 (k := 20) rfl (fun _ _ _ _ h => (dq_bind (dq_u2 h)).trans rfl) hd hk h
theorem dq_L21 {A : ByteArray} {p n : Nat} {b : UInt8} {r : List UInt8} {i : Instr} (hd : A.data.toList.drop p = b :: r) (hk : b.toNat = 21) (h : (dq_b1 r (fun x => decide (i = .iload x) && Nat.beq n 2)) = true) : decode A p = .ok (i, n) := dq_f1 (k := 21) rfl (fun _ _ _ h => (dq_bind (dq_u1 h)).trans rfl) hd hk h
theorem dq_L22 {A : ByteArray} {p n : Nat} {b : UInt8} {r : List UInt8} {i : Instr} (hd : A.data.toList.drop p = b :: r) (hk : b.toNat = 22) (h : (dq_b1 r (fun x => decide (i = .lload x) && Nat.beq n 2)) = true) : decode A p = .ok (i, n) := dq_f1 (k := 22) rfl (fun _ _ _ h => (dq_bind (dq_u1 h)).trans rfl) hd hk h
theorem dq_L25 {A : ByteArray} {p n : Nat} {b : UInt8} {r : List UInt8} {i : Instr} (hd : A.data.toList.drop p = b :: r) (hk : b.toNat = 25) (h : (dq_b1 r (fun x => decide (i = .aload x) && Nat.beq n 2)) = true) : decode A p = .ok (i, n) := dq_f1 (k := 25) rfl (fun _ _ _ h => (dq_bind (dq_u1 h)).trans rfl) hd hk h
theorem dq_L26 {A : ByteArray} {p n : Nat} {b : UInt8} {r : List UInt8} {i : Instr} (hd : A.data.toList.drop p = b :: r) (hk : b.toNat = 26) (h : ((decide (i = .iload_n 0) && Nat.beq n 1)) = true) : decode A p = .ok (i, n) := dq_f0 (k := 26) rfl (fun _ => rfl) hd hk h
theorem dq_L27 {A : ByteArray} {p n : Nat} {b : UInt8} {r : List UInt8} {i : Instr} (hd : A.data.toList.drop p = b :: r) (hk : b.toNat = 27) (h : ((decide (i = .iload_n 1) && Nat.beq n 1)) = true) : decode A p = .ok (i, n) := dq_f0 (k := 27) rfl (fun _ => rfl) hd hk h
theorem dq_L28 {A : ByteArray} {p n : Nat} {b : UInt8} {r : List UInt8} {i : Instr} (hd : A.data.toList.drop p = b :: r) (hk : b.toNat = 28) (h : ((decide (i = .iload_n 2) && Nat.beq n 1)) = true) : decode A p = .ok (i, n) := dq_f0 (k := 28) rfl (fun _ => rfl) hd hk h
theorem dq_L29 {A : ByteArray} {p n : Nat} {b : UInt8} {r : List UInt8} {i : Instr} (hd : A.data.toList.drop p = b :: r) (hk : b.toNat = 29) (h : ((decide (i = .iload_n 3) && Nat.beq n 1)) = true) : decode A p = .ok (i, n) := dq_f0 (k := 29) rfl (fun _ => rfl) hd hk h
theorem dq_L30 {A : ByteArray} {p n : Nat} {b : UInt8} {r : List UInt8} {i : Instr} (hd : A.data.toList.drop p = b :: r) (hk : b.toNat = 30) (h : ((decide (i = .lload_n 0) && Nat.beq n 1)) = true) : decode A p = .ok (i, n) := dq_f0 (k := 30) rfl (fun _ => rfl) hd hk h
theorem dq_L31 {A : ByteArray} {p n : Nat} {b : UInt8} {r : List UInt8} {i : Instr} (hd : A.data.toList.drop p = b :: r) (hk : b.toNat = 31) (h : ((decide (i = .lload_n 1) && Nat.beq n 1)) = true) : decode A p = .ok (i, n) := dq_f0 (k := 31) rfl (fun _ => rfl) hd hk h
theorem dq_L32 {A : ByteArray} {p n : Nat} {b : UInt8} {r : List UInt8} {i : Instr} (hd : A.data.toList.drop p = b :: r) (hk : b.toNat = 32) (h : ((decide (i = .lload_n 2) && Nat.beq n 1)) = true) : decode A p = .ok (i, n) := dq_f0 (k := 32) rfl (fun _ => rfl) hd hk h
theorem dq_L33 {A : ByteArray} {p n : Nat} {b : UInt8} {r : List UInt8} {i : Instr} (hd : A.data.toList.drop p = b :: r) (hk : b.toNat = 33) (h : ((decide (i = .lload_n 3) && Nat.beq n 1)) = true) : decode A p = .ok (i, n) := dq_f0 (k := 33) rfl (fun _ => rfl) hd hk h
theorem dq_L42 {A : ByteArray} {p n : Nat} {b : UInt8} {r : List UInt8} {i : Instr} (hd : A.data.toList.drop p = b :: r) (hk : b.toNat = 42) (h : ((decide (i = .aload_n 0) && Nat.beq n 1)) = true) : decode A p = .ok (i, n) := dq_f0 (k := 42) rfl (fun _ => rfl) hd hk h
theorem dq_L43 {A : ByteArray} {p n : Nat} {b : UInt8} {r : List UInt8} {i : Instr} (hd : A.data.toList.drop p = b :: r) (hk : b.toNat = 43) (h : ((decide (i = .aload_n 1) && Nat.beq n 1)) = true) : decode A p = .ok (i, n) := dq_f0 (k := 43) rfl (fun _ => rfl) hd hk h
theorem dq_L44 {A : ByteArray} {p n : Nat} {b : UInt8} {r : List UInt8} {i : Instr} (hd : A.data.toList.drop p = b :: r) (hk : b.toNat = 44) (h : ((decide (i = .aload_n 2) && Nat.beq n 1)) = true) : decode A p = .ok (i, n) := dq_f0 (k := 44) rfl (fun _ => rfl) hd hk h
theorem dq_L45 {A : ByteArray} {p n : Nat} {b : UInt8} {r : List UInt8} {i : Instr} (hd : A.data.toList.drop p = b :: r) (hk : b.toNat = 45) (h : ((decide (i = .aload_n 3) && Nat.beq n 1)) = true) : decode A p = .ok (i, n) := dq_f0 (k := 45) rfl (fun _ => rfl) hd hk h
theorem dq_L46 {A : ByteArray} {p n : Nat} {b : UInt8} {r : List UInt8} {i : Instr} (hd : A.data.toList.drop p = b :: r) (hk : b.toNat = 46) (h : ((decide (i = .iaload) && Nat.beq n 1)) = true) : decode A p = .ok (i, n) := dq_f0 (k := 46) rfl (fun _ => rfl) hd hk h
theorem dq_L47 {A : ByteArray} {p n : Nat} {b : UInt8} {r : List UInt8} {i : Instr} (hd : A.data.toList.drop p = b :: r) (hk : b.toNat = 47) (h : ((decide (i = .laload) && Nat.beq n 1)) = true) : decode A p = .ok (i, n) := dq_f0 (k := 47) rfl (fun _ => rfl) hd hk h
theorem dq_L50 {A : ByteArray} {p n : Nat} {b : UInt8} {r : List UInt8} {i : Instr} (hd : A.data.toList.drop p = b :: r) (hk : b.toNat = 50) (h : ((decide (i = .aaload) && Nat.beq n 1)) = true) : decode A p = .ok (i, n) := dq_f0 (k := 50) rfl (fun _ => rfl) hd hk h
theorem dq_L51 {A : ByteArray} {p n : Nat} {b : UInt8} {r : List UInt8} {i : Instr} (hd : A.data.toList.drop p = b :: r) (hk : b.toNat = 51) (h : ((decide (i = .baload) && Nat.beq n 1)) = true) : decode A p = .ok (i, n) := dq_f0 (k := 51) rfl (fun _ => rfl) hd hk h
theorem dq_L52 {A : ByteArray} {p n : Nat} {b : UInt8} {r : List UInt8} {i : Instr} (hd : A.data.toList.drop p = b :: r) (hk : b.toNat = 52) (h : ((decide (i = .caload) && Nat.beq n 1)) = true) : decode A p = .ok (i, n) := dq_f0 (k := 52) rfl (fun _ => rfl) hd hk h
theorem dq_L54 {A : ByteArray} {p n : Nat} {b : UInt8} {r : List UInt8} {i : Instr} (hd : A.data.toList.drop p = b :: r) (hk : b.toNat = 54) (h : (dq_b1 r (fun x => decide (i = .istore x) && Nat.beq n 2)) = true) : decode A p = .ok (i, n) := dq_f1 (k := 54) rfl (fun _ _ _ h => (dq_bind (dq_u1 h)).trans rfl) hd hk h
theorem dq_L55 {A : ByteArray} {p n : Nat} {b : UInt8} {r : List UInt8} {i : Instr} (hd : A.data.toList.drop p = b :: r) (hk : b.toNat = 55) (h : (dq_b1 r (fun x => decide (i = .lstore x) && Nat.beq n 2)) = true) : decode A p = .ok (i, n) := dq_f1 (k := 55) rfl (fun _ _ _ h => (dq_bind (dq_u1 h)).trans rfl) hd hk h
theorem dq_L58 {A : ByteArray} {p n : Nat} {b : UInt8} {r : List UInt8} {i : Instr} (hd : A.data.toList.drop p = b :: r) (hk : b.toNat = 58) (h : (dq_b1 r (fun x => decide (i = .astore x) && Nat.beq n 2)) = true) : decode A p = .ok (i, n) := dq_f1 (k := 58) rfl (fun _ _ _ h => (dq_bind (dq_u1 h)).trans rfl) hd hk h
theorem dq_L59 {A : ByteArray} {p n : Nat} {b : UInt8} {r : List UInt8} {i : Instr} (hd : A.data.toList.drop p = b :: r) (hk : b.toNat = 59) (h : ((decide (i = .istore_n 0) && Nat.beq n 1)) = true) : decode A p = .ok (i, n) := dq_f0 (k := 59) rfl (fun _ => rfl) hd hk h
theorem dq_L60 {A : ByteArray} {p n : Nat} {b : UInt8} {r : List UInt8} {i : Instr} (hd : A.data.toList.drop p = b :: r) (hk : b.toNat = 60) (h : ((decide (i = .istore_n 1) && Nat.beq n 1)) = true) : decode A p = .ok (i, n) := dq_f0 (k := 60) rfl (fun _ => rfl) hd hk h
theorem dq_L61 {A : ByteArray} {p n : Nat} {b : UInt8} {r : List UInt8} {i : Instr} (hd : A.data.toList.drop p = b :: r) (hk : b.toNat = 61) (h : ((decide (i = .istore_n 2) && Nat.beq n 1)) = true) : decode A p = .ok (i, n) := dq_f0 (k := 61) rfl (fun _ => rfl) hd hk h
theorem dq_L62 {A : ByteArray} {p n : Nat} {b : UInt8} {r : List UInt8} {i : Instr} (hd : A.data.toList.drop p = b :: r) (hk : b.toNat = 62) (h : ((decide (i = .istore_n 3) && Nat.beq n 1)) = true) : decode A p = .ok (i, n) := dq_f0 (k := 62) rfl (fun _ => rfl) hd hk h
theorem dq_L63 {A : ByteArray} {p n : Nat} {b : UInt8} {r : List UInt8} {i : Instr} (hd : A.data.toList.drop p = b :: r) (hk : b.toNat = 63) (h : ((decide (i = .lstore_n 0) && Nat.beq n 1)) = true) : decode A p = .ok (i, n) := dq_f0 (k := 63) rfl (fun _ => rfl) hd hk h
theorem dq_L64 {A : ByteArray} {p n : Nat} {b : UInt8} {r : List UInt8} {i : Instr} (hd : A.data.toList.drop p = b :: r) (hk : b.toNat = 64) (h : ((decide (i = .lstore_n 1) && Nat.beq n 1)) = true) : decode A p = .ok (i, n) := dq_f0 (k := 64) rfl (fun _ => rfl) hd hk h
theorem dq_L65 {A : ByteArray} {p n : Nat} {b : UInt8} {r : List UInt8} {i : Instr} (hd : A.data.toList.drop p = b :: r) (hk : b.toNat = 65) (h : ((decide (i = .lstore_n 2) && Nat.beq n 1)) = true) : decode A p = .ok (i, n) := dq_f0 (k := 65) rfl (fun _ => rfl) hd hk h
theorem dq_L66 {A : ByteArray} {p n : Nat} {b : UInt8} {r : List UInt8} {i : Instr} (hd : A.data.toList.drop p = b :: r) (hk : b.toNat = 66) (h : ((decide (i = .lstore_n 3) && Nat.beq n 1)) = true) : decode A p = .ok (i, n) := dq_f0 (k := 66) rfl (fun _ => rfl) hd hk h
theorem dq_L75 {A : ByteArray} {p n : Nat} {b : UInt8} {r : List UInt8} {i : Instr} (hd : A.data.toList.drop p = b :: r) (hk : b.toNat = 75) (h : ((decide (i = .astore_n 0) && Nat.beq n 1)) = true) : decode A p = .ok (i, n) := dq_f0 (k := 75) rfl (fun _ => rfl) hd hk h
theorem dq_L76 {A : ByteArray} {p n : Nat} {b : UInt8} {r : List UInt8} {i : Instr} (hd : A.data.toList.drop p = b :: r) (hk : b.toNat = 76) (h : ((decide (i = .astore_n 1) && Nat.beq n 1)) = true) : decode A p = .ok (i, n) := dq_f0 (k := 76) rfl (fun _ => rfl) hd hk h
theorem dq_L77 {A : ByteArray} {p n : Nat} {b : UInt8} {r : List UInt8} {i : Instr} (hd : A.data.toList.drop p = b :: r) (hk : b.toNat = 77) (h : ((decide (i = .astore_n 2) && Nat.beq n 1)) = true) : decode A p = .ok (i, n) := dq_f0 (k := 77) rfl (fun _ => rfl) hd hk h
theorem dq_L78 {A : ByteArray} {p n : Nat} {b : UInt8} {r : List UInt8} {i : Instr} (hd : A.data.toList.drop p = b :: r) (hk : b.toNat = 78) (h : ((decide (i = .astore_n 3) && Nat.beq n 1)) = true) : decode A p = .ok (i, n) := dq_f0 (k := 78) rfl (fun _ => rfl) hd hk h
theorem dq_L79 {A : ByteArray} {p n : Nat} {b : UInt8} {r : List UInt8} {i : Instr} (hd : A.data.toList.drop p = b :: r) (hk : b.toNat = 79) (h : ((decide (i = .iastore) && Nat.beq n 1)) = true) : decode A p = .ok (i, n) := dq_f0 (k := 79) rfl (fun _ => rfl) hd hk h
theorem dq_L80 {A : ByteArray} {p n : Nat} {b : UInt8} {r : List UInt8} {i : Instr} (hd : A.data.toList.drop p = b :: r) (hk : b.toNat = 80) (h : ((decide (i = .lastore) && Nat.beq n 1)) = true) : decode A p = .ok (i, n) := dq_f0 (k := 80) rfl (fun _ => rfl) hd hk h
theorem dq_L83 {A : ByteArray} {p n : Nat} {b : UInt8} {r : List UInt8} {i : Instr} (hd : A.data.toList.drop p = b :: r) (hk : b.toNat = 83) (h : ((decide (i = .aastore) && Nat.beq n 1)) = true) : decode A p = .ok (i, n) := dq_f0 (k := 83) rfl (fun _ => rfl) hd hk h
theorem dq_L84 {A : ByteArray} {p n : Nat} {b : UInt8} {r : List UInt8} {i : Instr} (hd : A.data.toList.drop p = b :: r) (hk : b.toNat = 84) (h : ((decide (i = .bastore) && Nat.beq n 1)) = true) : decode A p = .ok (i, n) := dq_f0 (k := 84) rfl (fun _ => rfl) hd hk h
theorem dq_L85 {A : ByteArray} {p n : Nat} {b : UInt8} {r : List UInt8} {i : Instr} (hd : A.data.toList.drop p = b :: r) (hk : b.toNat = 85) (h : ((decide (i = .castore) && Nat.beq n 1)) = true) : decode A p = .ok (i, n) := dq_f0 (k := 85) rfl (fun _ => rfl) hd hk h
theorem dq_L87 {A : ByteArray} {p n : Nat} {b : UInt8} {r : List UInt8} {i : Instr} (hd : A.data.toList.drop p = b :: r) (hk : b.toNat = 87) (h : ((decide (i = .pop) && Nat.beq n 1)) = true) : decode A p = .ok (i, n) := dq_f0 (k := 87) rfl (fun _ => rfl) hd hk h
theorem dq_L89 {A : ByteArray} {p n : Nat} {b : UInt8} {r : List UInt8} {i : Instr} (hd : A.data.toList.drop p = b :: r) (hk : b.toNat = 89) (h : ((decide (i = .dup) && Nat.beq n 1)) = true) : decode A p = .ok (i, n) := dq_f0 (k := 89) rfl (fun _ => rfl) hd hk h
theorem dq_L92 {A : ByteArray} {p n : Nat} {b : UInt8} {r : List UInt8} {i : Instr} (hd : A.data.toList.drop p = b :: r) (hk : b.toNat = 92) (h : ((decide (i = .dup2) && Nat.beq n 1)) = true) : decode A p = .ok (i, n) := dq_f0 (k := 92) rfl (fun _ => rfl) hd hk h
theorem dq_L96 {A : ByteArray} {p n : Nat} {b : UInt8} {r : List UInt8} {i : Instr} (hd : A.data.toList.drop p = b :: r) (hk : b.toNat = 96) (h : ((decide (i = .iadd) && Nat.beq n 1)) = true) : decode A p = .ok (i, n) := dq_f0 (k := 96) rfl (fun _ => rfl) hd hk h
theorem dq_L97 {A : ByteArray} {p n : Nat} {b : UInt8} {r : List UInt8} {i : Instr} (hd : A.data.toList.drop p = b :: r) (hk : b.toNat = 97) (h : ((decide (i = .ladd) && Nat.beq n 1)) = true) : decode A p = .ok (i, n) := dq_f0 (k := 97) rfl (fun _ => rfl) hd hk h
theorem dq_L100 {A : ByteArray} {p n : Nat} {b : UInt8} {r : List UInt8} {i : Instr} (hd : A.data.toList.drop p = b :: r) (hk : b.toNat = 100) (h : ((decide (i = .isub) && Nat.beq n 1)) = true) : decode A p = .ok (i, n) := dq_f0 (k := 100) rfl (fun _ => rfl) hd hk h
theorem dq_L101 {A : ByteArray} {p n : Nat} {b : UInt8} {r : List UInt8} {i : Instr} (hd : A.data.toList.drop p = b :: r) (hk : b.toNat = 101) (h : ((decide (i = .lsub) && Nat.beq n 1)) = true) : decode A p = .ok (i, n) := dq_f0 (k := 101) rfl (fun _ => rfl) hd hk h
theorem dq_L104 {A : ByteArray} {p n : Nat} {b : UInt8} {r : List UInt8} {i : Instr} (hd : A.data.toList.drop p = b :: r) (hk : b.toNat = 104) (h : ((decide (i = .imul) && Nat.beq n 1)) = true) : decode A p = .ok (i, n) := dq_f0 (k := 104) rfl (fun _ => rfl) hd hk h
theorem dq_L105 {A : ByteArray} {p n : Nat} {b : UInt8} {r : List UInt8} {i : Instr} (hd : A.data.toList.drop p = b :: r) (hk : b.toNat = 105) (h : ((decide (i = .lmul) && Nat.beq n 1)) = true) : decode A p = .ok (i, n) := dq_f0 (k := 105) rfl (fun _ => rfl) hd hk h
theorem dq_L108 {A : ByteArray} {p n : Nat} {b : UInt8} {r : List UInt8} {i : Instr} (hd : A.data.toList.drop p = b :: r) (hk : b.toNat = 108) (h : ((decide (i = .idiv) && Nat.beq n 1)) = true) : decode A p = .ok (i, n) := dq_f0 (k := 108) rfl (fun _ => rfl) hd hk h
theorem dq_L109 {A : ByteArray} {p n : Nat} {b : UInt8} {r : List UInt8} {i : Instr} (hd : A.data.toList.drop p = b :: r) (hk : b.toNat = 109) (h : ((decide (i = .ldiv) && Nat.beq n 1)) = true) : decode A p = .ok (i, n) := dq_f0 (k := 109) rfl (fun _ => rfl) hd hk h
theorem dq_L112 {A : ByteArray} {p n : Nat} {b : UInt8} {r : List UInt8} {i : Instr} (hd : A.data.toList.drop p = b :: r) (hk : b.toNat = 112) (h : ((decide (i = .irem) && Nat.beq n 1)) = true) : decode A p = .ok (i, n) := dq_f0 (k := 112) rfl (fun _ => rfl) hd hk h
theorem dq_L113 {A : ByteArray} {p n : Nat} {b : UInt8} {r : List UInt8} {i : Instr} (hd : A.data.toList.drop p = b :: r) (hk : b.toNat = 113) (h : ((decide (i = .lrem) && Nat.beq n 1)) = true) : decode A p = .ok (i, n) := dq_f0 (k := 113) rfl (fun _ => rfl) hd hk h
theorem dq_L116 {A : ByteArray} {p n : Nat} {b : UInt8} {r : List UInt8} {i : Instr} (hd : A.data.toList.drop p = b :: r) (hk : b.toNat = 116) (h : ((decide (i = .ineg) && Nat.beq n 1)) = true) : decode A p = .ok (i, n) := dq_f0 (k := 116) rfl (fun _ => rfl) hd hk h
theorem dq_L120 {A : ByteArray} {p n : Nat} {b : UInt8} {r : List UInt8} {i : Instr} (hd : A.data.toList.drop p = b :: r) (hk : b.toNat = 120) (h : ((decide (i = .ishl) && Nat.beq n 1)) = true) : decode A p = .ok (i, n) := dq_f0 (k := 120) rfl (fun _ => rfl) hd hk h
theorem dq_L122 {A : ByteArray} {p n : Nat} {b : UInt8} {r : List UInt8} {i : Instr} (hd : A.data.toList.drop p = b :: r) (hk : b.toNat = 122) (h : ((decide (i = .ishr) && Nat.beq n 1)) = true) : decode A p = .ok (i, n) := dq_f0 (k := 122) rfl (fun _ => rfl) hd hk h
theorem dq_L124 {A : ByteArray} {p n : Nat} {b : UInt8} {r : List UInt8} {i : Instr} (hd : A.data.toList.drop p = b :: r) (hk : b.toNat = 124) (h : ((decide (i = .iushr) && Nat.beq n 1)) = true) : decode A p = .ok (i, n) := dq_f0 (k := 124) rfl (fun _ => rfl) hd hk h
theorem dq_L126 {A : ByteArray} {p n : Nat} {b : UInt8} {r : List UInt8} {i : Instr} (hd : A.data.toList.drop p = b :: r) (hk : b.toNat = 126) (h : ((decide (i = .iand) && Nat.beq n 1)) = true) : decode A p = .ok (i, n) := dq_f0 (k := 126) rfl (fun _ => rfl) hd hk h
theorem dq_L128 {A : ByteArray} {p n : Nat} {b : UInt8} {r : List UInt8} {i : Instr} (hd : A.data.toList.drop p = b :: r) (hk : b.toNat = 128) (h : ((decide (i = .ior) && Nat.beq n 1)) = true) : decode A p = .ok (i, n) := dq_f0 (k := 128) rfl (fun _ => rfl) hd hk h
theorem dq_L130 {A : ByteArray} {p n : Nat} {b : UInt8} {r : List UInt8} {i : Instr} (hd : A.data.toList.drop p = b :: r) (hk : b.toNat = 130) (h : ((decide (i = .ixor) && Nat.beq n 1)) = true) : decode A p = .ok (i, n) := dq_f0 (k := 130) rfl (fun _ => rfl) hd hk h
theorem dq_L132 {A : ByteArray} {p n : Nat} {b : UInt8} {r : List UInt8} {i : Instr} (hd : A.data.toList.drop p = b :: r) (hk : b.toNat = 132) (h : (dq_b2 r (fun x y => decide (i = .iinc x (Reader.signed 8 y)) && Nat.beq n 3)) = true) : decode A p = .ok (i, n) := dq_f2 (k := 132) rfl (fun _ _ _ _ h => (dq_bind (dq_u1 h)).trans ((dq_bind (dq_s1 (dq_nx h))).trans rfl)) hd hk h
theorem dq_L133 {A : ByteArray} {p n : Nat} {b : UInt8} {r : List UInt8} {i : Instr} (hd : A.data.toList.drop p = b :: r) (hk : b.toNat = 133) (h : ((decide (i = .i2l) && Nat.beq n 1)) = true) : decode A p = .ok (i, n) := dq_f0 (k := 133) rfl (fun _ => rfl) hd hk h
theorem dq_L145 {A : ByteArray} {p n : Nat} {b : UInt8} {r : List UInt8} {i : Instr} (hd : A.data.toList.drop p = b :: r) (hk : b.toNat = 145) (h : ((decide (i = .i2b) && Nat.beq n 1)) = true) : decode A p = .ok (i, n) := dq_f0 (k := 145) rfl (fun _ => rfl) hd hk h
theorem dq_L147 {A : ByteArray} {p n : Nat} {b : UInt8} {r : List UInt8} {i : Instr} (hd : A.data.toList.drop p = b :: r) (hk : b.toNat = 147) (h : ((decide (i = .i2s) && Nat.beq n 1)) = true) : decode A p = .ok (i, n) := dq_f0 (k := 147) rfl (fun _ => rfl) hd hk h
theorem dq_L148 {A : ByteArray} {p n : Nat} {b : UInt8} {r : List UInt8} {i : Instr} (hd : A.data.toList.drop p = b :: r) (hk : b.toNat = 148) (h : ((decide (i = .lcmp) && Nat.beq n 1)) = true) : decode A p = .ok (i, n) := dq_f0 (k := 148) rfl (fun _ => rfl) hd hk h
theorem dq_L153 {A : ByteArray} {p n : Nat} {b : UInt8} {r : List UInt8} {i : Instr} (hd : A.data.toList.drop p = b :: r) (hk : b.toNat = 153) (h : (dq_b2 r (fun x y => decide (i = .ifCond .eq (Reader.signed 16 (x * 256 + y))) && Nat.beq n 3)) = true) : decode A p = .ok (i, n) := dq_f2 (k := 153) rfl (fun _ _ _ _ h => (dq_bind (dq_s2 h)).trans rfl) hd hk h
theorem dq_L154 {A : ByteArray} {p n : Nat} {b : UInt8} {r : List UInt8} {i : Instr} (hd : A.data.toList.drop p = b :: r) (hk : b.toNat = 154) (h : (dq_b2 r (fun x y => decide (i = .ifCond .ne (Reader.signed 16 (x * 256 + y))) && Nat.beq n 3)) = true) : decode A p = .ok (i, n) := dq_f2 (k := 154) rfl (fun _ _ _ _ h => (dq_bind (dq_s2 h)).trans rfl) hd hk h
theorem dq_L155 {A : ByteArray} {p n : Nat} {b : UInt8} {r : List UInt8} {i : Instr} (hd : A.data.toList.drop p = b :: r) (hk : b.toNat = 155) (h : (dq_b2 r (fun x y => decide (i = .ifCond .lt (Reader.signed 16 (x * 256 + y))) && Nat.beq n 3)) = true) : decode A p = .ok (i, n) := dq_f2 (k := 155) rfl (fun _ _ _ _ h => (dq_bind (dq_s2 h)).trans rfl) hd hk h
theorem dq_L156 {A : ByteArray} {p n : Nat} {b : UInt8} {r : List UInt8} {i : Instr} (hd : A.data.toList.drop p = b :: r) (hk : b.toNat = 156) (h : (dq_b2 r (fun x y => decide (i = .ifCond .ge (Reader.signed 16 (x * 256 + y))) && Nat.beq n 3)) = true) : decode A p = .ok (i, n) := dq_f2 (k := 156) rfl (fun _ _ _ _ h => (dq_bind (dq_s2 h)).trans rfl) hd hk h
theorem dq_L157 {A : ByteArray} {p n : Nat} {b : UInt8} {r : List UInt8} {i : Instr} (hd : A.data.toList.drop p = b :: r) (hk : b.toNat = 157) (h : (dq_b2 r (fun x y => decide (i = .ifCond .gt (Reader.signed 16 (x * 256 + y))) && Nat.beq n 3)) = true) : decode A p = .ok (i, n) := dq_f2 (k := 157) rfl (fun _ _ _ _ h => (dq_bind (dq_s2 h)).trans rfl) hd hk h
theorem dq_L158 {A : ByteArray} {p n : Nat} {b : UInt8} {r : List UInt8} {i : Instr} (hd : A.data.toList.drop p = b :: r) (hk : b.toNat = 158) (h : (dq_b2 r (fun x y => decide (i = .ifCond .le (Reader.signed 16 (x * 256 + y))) && Nat.beq n 3)) = true) : decode A p = .ok (i, n) := dq_f2 (k := 158) rfl (fun _ _ _ _ h => (dq_bind (dq_s2 h)).trans rfl) hd hk h
theorem dq_L159 {A : ByteArray} {p n : Nat} {b : UInt8} {r : List UInt8} {i : Instr} (hd : A.data.toList.drop p = b :: r) (hk : b.toNat = 159) (h : (dq_b2 r (fun x y => decide (i = .if_icmp .eq (Reader.signed 16 (x * 256 + y))) && Nat.beq n 3)) = true) : decode A p = .ok (i, n) := dq_f2 (k := 159) rfl (fun _ _ _ _ h => (dq_bind (dq_s2 h)).trans rfl) hd hk h
theorem dq_L160 {A : ByteArray} {p n : Nat} {b : UInt8} {r : List UInt8} {i : Instr} (hd : A.data.toList.drop p = b :: r) (hk : b.toNat = 160) (h : (dq_b2 r (fun x y => decide (i = .if_icmp .ne (Reader.signed 16 (x * 256 + y))) && Nat.beq n 3)) = true) : decode A p = .ok (i, n) := dq_f2 (k := 160) rfl (fun _ _ _ _ h => (dq_bind (dq_s2 h)).trans rfl) hd hk h
theorem dq_L161 {A : ByteArray} {p n : Nat} {b : UInt8} {r : List UInt8} {i : Instr} (hd : A.data.toList.drop p = b :: r) (hk : b.toNat = 161) (h : (dq_b2 r (fun x y => decide (i = .if_icmp .lt (Reader.signed 16 (x * 256 + y))) && Nat.beq n 3)) = true) : decode A p = .ok (i, n) := dq_f2 (k := 161) rfl (fun _ _ _ _ h => (dq_bind (dq_s2 h)).trans rfl) hd hk h
theorem dq_L162 {A : ByteArray} {p n : Nat} {b : UInt8} {r : List UInt8} {i : Instr} (hd : A.data.toList.drop p = b :: r) (hk : b.toNat = 162) (h : (dq_b2 r (fun x y => decide (i = .if_icmp .ge (Reader.signed 16 (x * 256 + y))) && Nat.beq n 3)) = true) : decode A p = .ok (i, n) := dq_f2 (k := 162) rfl (fun _ _ _ _ h => (dq_bind (dq_s2 h)).trans rfl) hd hk h
theorem dq_L163 {A : ByteArray} {p n : Nat} {b : UInt8} {r : List UInt8} {i : Instr} (hd : A.data.toList.drop p = b :: r) (hk : b.toNat = 163) (h : (dq_b2 r (fun x y => decide (i = .if_icmp .gt (Reader.signed 16 (x * 256 + y))) && Nat.beq n 3)) = true) : decode A p = .ok (i, n) := dq_f2 (k := 163) rfl (fun _ _ _ _ h => (dq_bind (dq_s2 h)).trans rfl) hd hk h
theorem dq_L164 {A : ByteArray} {p n : Nat} {b : UInt8} {r : List UInt8} {i : Instr} (hd : A.data.toList.drop p = b :: r) (hk : b.toNat = 164) (h : (dq_b2 r (fun x y => decide (i = .if_icmp .le (Reader.signed 16 (x * 256 + y))) && Nat.beq n 3)) = true) : decode A p = .ok (i, n) := dq_f2 (k := 164) rfl (fun _ _ _ _ h => (dq_bind (dq_s2 h)).trans rfl) hd hk h
theorem dq_L167 {A : ByteArray} {p n : Nat} {b : UInt8} {r : List UInt8} {i : Instr} (hd : A.data.toList.drop p = b :: r) (hk : b.toNat = 167) (h : (dq_b2 r (fun x y => decide (i = .goto (Reader.signed 16 (x * 256 + y))) && Nat.beq n 3)) = true) : decode A p = .ok (i, n) := dq_f2 (k := 167) rfl (fun _ _ _ _ h => (dq_bind (dq_s2 h)).trans rfl) hd hk h
theorem dq_L172 {A : ByteArray} {p n : Nat} {b : UInt8} {r : List UInt8} {i : Instr} (hd : A.data.toList.drop p = b :: r) (hk : b.toNat = 172) (h : ((decide (i = .ireturn) && Nat.beq n 1)) = true) : decode A p = .ok (i, n) := dq_f0 (k := 172) rfl (fun _ => rfl) hd hk h
theorem dq_L173 {A : ByteArray} {p n : Nat} {b : UInt8} {r : List UInt8} {i : Instr} (hd : A.data.toList.drop p = b :: r) (hk : b.toNat = 173) (h : ((decide (i = .lreturn) && Nat.beq n 1)) = true) : decode A p = .ok (i, n) := dq_f0 (k := 173) rfl (fun _ => rfl) hd hk h
theorem dq_L177 {A : ByteArray} {p n : Nat} {b : UInt8} {r : List UInt8} {i : Instr} (hd : A.data.toList.drop p = b :: r) (hk : b.toNat = 177) (h : ((decide (i = .return_) && Nat.beq n 1)) = true) : decode A p = .ok (i, n) := dq_f0 (k := 177) rfl (fun _ => rfl) hd hk h
theorem dq_L180 {A : ByteArray} {p n : Nat} {b : UInt8} {r : List UInt8} {i : Instr} (hd : A.data.toList.drop p = b :: r) (hk : b.toNat = 180) (h : (dq_b2 r (fun x y => decide (i = .getfield (x * 256 + y)) && Nat.beq n 3)) = true) : decode A p = .ok (i, n) := dq_f2 (k := 180) rfl (fun _ _ _ _ h => (dq_bind (dq_u2 h)).trans rfl) hd hk h
theorem dq_L181 {A : ByteArray} {p n : Nat} {b : UInt8} {r : List UInt8} {i : Instr} (hd : A.data.toList.drop p = b :: r) (hk : b.toNat = 181) (h : (dq_b2 r (fun x y => decide (i = .putfield (x * 256 + y)) && Nat.beq n 3)) = true) : decode A p = .ok (i, n) := dq_f2 (k := 181) rfl (fun _ _ _ _ h => (dq_bind (dq_u2 h)).trans rfl) hd hk h
theorem dq_L182 {A : ByteArray} {p n : Nat} {b : UInt8} {r : List UInt8} {i : Instr} (hd : A.data.toList.drop p = b :: r) (hk : b.toNat = 182) (h : (dq_b2 r (fun x y => decide (i = .invokevirtual (x * 256 + y)) && Nat.beq n 3)) = true) : decode A p = .ok (i, n) := dq_f2 (k := 182) rfl (fun _ _ _ _ h => (dq_bind (dq_u2 h)).trans rfl) hd hk h
theorem dq_L183 {A : ByteArray} {p n : Nat} {b : UInt8} {r : List UInt8} {i : Instr} (hd : A.data.toList.drop p = b :: r) (hk : b.toNat = 183) (h : (dq_b2 r (fun x y => decide (i = .invokespecial (x * 256 + y)) && Nat.beq n 3)) = true) : decode A p = .ok (i, n) := dq_f2 (k := 183) rfl (fun _ _ _ _ h => (dq_bind (dq_u2 h)).trans rfl) hd hk h
theorem dq_L184 {A : ByteArray} {p n : Nat} {b : UInt8} {r : List UInt8} {i : Instr} (hd : A.data.toList.drop p = b :: r) (hk : b.toNat = 184) (h : (dq_b2 r (fun x y => decide (i = .invokestatic (x * 256 + y)) && Nat.beq n 3)) = true) : decode A p = .ok (i, n) := dq_f2 (k := 184) rfl (fun _ _ _ _ h => (dq_bind (dq_u2 h)).trans rfl) hd hk h
theorem dq_L187 {A : ByteArray} {p n : Nat} {b : UInt8} {r : List UInt8} {i : Instr} (hd : A.data.toList.drop p = b :: r) (hk : b.toNat = 187) (h : (dq_b2 r (fun x y => decide (i = .new (x * 256 + y)) && Nat.beq n 3)) = true) : decode A p = .ok (i, n) := dq_f2 (k := 187) rfl (fun _ _ _ _ h => (dq_bind (dq_u2 h)).trans rfl) hd hk h
theorem dq_L190 {A : ByteArray} {p n : Nat} {b : UInt8} {r : List UInt8} {i : Instr} (hd : A.data.toList.drop p = b :: r) (hk : b.toNat = 190) (h : ((decide (i = .arraylength) && Nat.beq n 1)) = true) : decode A p = .ok (i, n) := dq_f0 (k := 190) rfl (fun _ => rfl) hd hk h
noncomputable def dq_ck (A : ByteArray) (p a : Nat) (r : List UInt8) (i : Instr) (n : Nat) : Bool := (cond (Nat.ble a 80) (cond (Nat.ble a 33) (cond (Nat.ble a 18) (cond (Nat.ble a 7) (cond (Nat.ble a 4) (cond (Nat.ble a 2) (cond (Nat.beq a 2) ((decide (i = .iconst (-1)) && Nat.beq n 1)) (decide (decode A p = .ok (i, n)))) (cond (Nat.ble a 3) (cond (Nat.beq a 3) ((decide (i = .iconst (0)) && Nat.beq n 1)) (decide (decode A p = .ok (i, n)))) (cond (Nat.beq a 4) ((decide (i = .iconst (1)) && Nat.beq n 1)) (decide (decode A p = .ok (i, n)))))) (cond (Nat.ble a 5) (cond (Nat.beq a 5) ((decide (i = .iconst (2)) && Nat.beq n 1)) (decide (decode A p = .ok (i, n)))) (cond (Nat.ble a 6) (cond (Nat.beq a 6) ((decide (i = .iconst (3)) && Nat.beq n 1)) (decide (decode A p = .ok (i, n)))) (cond (Nat.beq a 7) ((decide (i = .iconst (4)) && Nat.beq n 1)) (decide (decode A p = .ok (i, n))))))) (cond (Nat.ble a 10) (cond (Nat.ble a 8) (cond (Nat.beq a 8) ((decide (i = .iconst (5)) && Nat.beq n 1)) (decide (decode A p = .ok (i, n)))) (cond (Nat.ble a 9) (cond (Nat.beq a 9) ((decide (i = .lconst 0) && Nat.beq n 1)) (decide (decode A p = .ok (i, n)))) (cond (Nat.beq a 10) ((decide (i = .lconst 1) && Nat.beq n 1)) (decide (decode A p = .ok (i, n)))))) (cond (Nat.ble a 16) (cond (Nat.beq a 16) (dq_b1 r (fun x => decide (i = .bipush (Reader.signed 8 x)) && Nat.beq n 2)) (decide (decode A p = .ok (i, n)))) (cond (Nat.ble a 17) (cond (Nat.beq a 17) (dq_b2 r (fun x y => decide (i = .sipush (Reader.signed 16 (x * 256 + y))) && Nat.beq n 3)) (decide (decode A p = .ok (i, n)))) (cond (Nat.beq a 18) (dq_b1 r (fun x => decide (i = .ldc x) && Nat.beq n 2)) (decide (decode A p = .ok (i, n)))))))) (cond (Nat.ble a 26) (cond (Nat.ble a 21) (cond (Nat.ble a 19) (cond (Nat.beq a 19) (dq_b2 r (fun x y => decide (i = .ldc_w (x * 256 + y)) && Nat.beq n 3)) (decide (decode A p = .ok (i, n)))) (cond (Nat.ble a 20) (cond (Nat.beq a 20) (dq_b2 r (fun x y => decide (i = .ldc2_w (x * 256 + y)) && Nat.beq n 3)) (decide (decode A p = .ok (i, n)))) (cond (Nat.beq a 21) (dq_b1 r (fun x => decide (i = .iload x) && Nat.beq n 2)) (decide (decode A p = .ok (i, n)))))) (cond (Nat.ble a 22) (cond (Nat.beq a 22) (dq_b1 r (fun x => decide (i = .lload x) && Nat.beq n 2)) (decide (decode A p = .ok (i, n)))) (cond (Nat.ble a 25) (cond (Nat.beq a 25) (dq_b1 r (fun x => decide (i = .aload x) && Nat.beq n 2)) (decide (decode A p = .ok (i, n)))) (cond (Nat.beq a 26) ((decide (i = .iload_n 0) && Nat.beq n 1)) (decide (decode A p = .ok (i, n))))))) (cond (Nat.ble a 29) (cond (Nat.ble a 27) (cond (Nat.beq a 27) ((decide (i = .iload_n 1) && Nat.beq n 1)) (decide (decode A p = .ok (i, n)))) (cond (Nat.ble a 28) (cond (Nat.beq a 28) ((decide (i = .iload_n 2) && Nat.beq n 1)) (decide (decode A p = .ok (i, n)))) (cond (Nat.beq a 29) ((decide (i = .iload_n 3) && Nat.beq n 1)) (decide (decode A p = .ok (i, n)))))) (cond (Nat.ble a 31) (cond (Nat.ble a 30) (cond (Nat.beq a 30) ((decide (i = .lload_n 0) && Nat.beq n 1)) (decide (decode A p = .ok (i, n)))) (cond (Nat.beq a 31) ((decide (i = .lload_n 1) && Nat.beq n 1)) (decide (decode A p = .ok (i, n))))) (cond (Nat.ble a 32) (cond (Nat.beq a 32) ((decide (i = .lload_n 2) && Nat.beq n 1)) (decide (decode A p = .ok (i, n)))) (cond (Nat.beq a 33) ((decide (i = .lload_n 3) && Nat.beq n 1)) (decide (decode A p = .ok (i, n))))))))) (cond (Nat.ble a 59) (cond (Nat.ble a 47) (cond (Nat.ble a 44) (cond (Nat.ble a 42) (cond (Nat.beq a 42) ((decide (i = .aload_n 0) && Nat.beq n 1)) (decide (decode A p = .ok (i, n)))) (cond (Nat.ble a 43) (cond (Nat.beq a 43) ((decide (i = .aload_n 1) && Nat.beq n 1)) (decide (decode A p = .ok (i, n)))) (cond (Nat.beq a 44) ((decide (i = .aload_n 2) && Nat.beq n 1)) (decide (decode A p = .ok (i, n)))))) (cond (Nat.ble a 45) (cond (Nat.beq a 45) ((decide (i = .aload_n 3) && Nat.beq n 1)) (decide (decode A p = .ok (i, n)))) (cond (Nat.ble a 46) (cond (Nat.beq a 46) ((decide (i = .iaload) && Nat.beq n 1)) (decide (decode A p = .ok (i, n)))) (cond (Nat.beq a 47) ((decide (i = .laload) && Nat.beq n 1)) (decide (decode A p = .ok (i, n))))))) (cond (Nat.ble a 52) (cond (Nat.ble a 50) (cond (Nat.beq a 50) ((decide (i = .aaload) && Nat.beq n 1)) (decide (decode A p = .ok (i, n)))) (cond (Nat.ble a 51) (cond (Nat.beq a 51) ((decide (i = .baload) && Nat.beq n 1)) (decide (decode A p = .ok (i, n)))) (cond (Nat.beq a 52) ((decide (i = .caload) && Nat.beq n 1)) (decide (decode A p = .ok (i, n)))))) (cond (Nat.ble a 55) (cond (Nat.ble a 54) (cond (Nat.beq a 54) (dq_b1 r (fun x => decide (i = .istore x) && Nat.beq n 2)) (decide (decode A p = .ok (i, n)))) (cond (Nat.beq a 55) (dq_b1 r (fun x => decide (i = .lstore x) && Nat.beq n 2)) (decide (decode A p = .ok (i, n))))) (cond (Nat.ble a 58) (cond (Nat.beq a 58) (dq_b1 r (fun x => decide (i = .astore x) && Nat.beq n 2)) (decide (decode A p = .ok (i, n)))) (cond (Nat.beq a 59) ((decide (i = .istore_n 0) && Nat.beq n 1)) (decide (decode A p = .ok (i, n)))))))) (cond (Nat.ble a 65) (cond (Nat.ble a 62) (cond (Nat.ble a 60) (cond (Nat.beq a 60) ((decide (i = .istore_n 1) && Nat.beq n 1)) (decide (decode A p = .ok (i, n)))) (cond (Nat.ble a 61) (cond (Nat.beq a 61) ((decide (i = .istore_n 2) && Nat.beq n 1)) (decide (decode A p = .ok (i, n)))) (cond (Nat.beq a 62) ((decide (i = .istore_n 3) && Nat.beq n 1)) (decide (decode A p = .ok (i, n)))))) (cond (Nat.ble a 63) (cond (Nat.beq a 63) ((decide (i = .lstore_n 0) && Nat.beq n 1)) (decide (decode A p = .ok (i, n)))) (cond (Nat.ble a 64) (cond (Nat.beq a 64) ((decide (i = .lstore_n 1) && Nat.beq n 1)) (decide (decode A p = .ok (i, n)))) (cond (Nat.beq a 65) ((decide (i = .lstore_n 2) && Nat.beq n 1)) (decide (decode A p = .ok (i, n))))))) (cond (Nat.ble a 76) (cond (Nat.ble a 66) (cond (Nat.beq a 66) ((decide (i = .lstore_n 3) && Nat.beq n 1)) (decide (decode A p = .ok (i, n)))) (cond (Nat.ble a 75) (cond (Nat.beq a 75) ((decide (i = .astore_n 0) && Nat.beq n 1)) (decide (decode A p = .ok (i, n)))) (cond (Nat.beq a 76) ((decide (i = .astore_n 1) && Nat.beq n 1)) (decide (decode A p = .ok (i, n)))))) (cond (Nat.ble a 78) (cond (Nat.ble a 77) (cond (Nat.beq a 77) ((decide (i = .astore_n 2) && Nat.beq n 1)) (decide (decode A p = .ok (i, n)))) (cond (Nat.beq a 78) ((decide (i = .astore_n 3) && Nat.beq n 1)) (decide (decode A p = .ok (i, n))))) (cond (Nat.ble a 79) (cond (Nat.beq a 79) ((decide (i = .iastore) && Nat.beq n 1)) (decide (decode A p = .ok (i, n)))) (cond (Nat.beq a 80) ((decide (i = .lastore) && Nat.beq n 1)) (decide (decode A p = .ok (i, n)))))))))) (cond (Nat.ble a 133) (cond (Nat.ble a 105) (cond (Nat.ble a 92) (cond (Nat.ble a 85) (cond (Nat.ble a 83) (cond (Nat.beq a 83) ((decide (i = .aastore) && Nat.beq n 1)) (decide (decode A p = .ok (i, n)))) (cond (Nat.ble a 84) (cond (Nat.beq a 84) ((decide (i = .bastore) && Nat.beq n 1)) (decide (decode A p = .ok (i, n)))) (cond (Nat.beq a 85) ((decide (i = .castore) && Nat.beq n 1)) (decide (decode A p = .ok (i, n)))))) (cond (Nat.ble a 87) (cond (Nat.beq a 87) ((decide (i = .pop) && Nat.beq n 1)) (decide (decode A p = .ok (i, n)))) (cond (Nat.ble a 89) (cond (Nat.beq a 89) ((decide (i = .dup) && Nat.beq n 1)) (decide (decode A p = .ok (i, n)))) (cond (Nat.beq a 92) ((decide (i = .dup2) && Nat.beq n 1)) (decide (decode A p = .ok (i, n))))))) (cond (Nat.ble a 100) (cond (Nat.ble a 96) (cond (Nat.beq a 96) ((decide (i = .iadd) && Nat.beq n 1)) (decide (decode A p = .ok (i, n)))) (cond (Nat.ble a 97) (cond (Nat.beq a 97) ((decide (i = .ladd) && Nat.beq n 1)) (decide (decode A p = .ok (i, n)))) (cond (Nat.beq a 100) ((decide (i = .isub) && Nat.beq n 1)) (decide (decode A p = .ok (i, n)))))) (cond (Nat.ble a 101) (cond (Nat.beq a 101) ((decide (i = .lsub) && Nat.beq n 1)) (decide (decode A p = .ok (i, n)))) (cond (Nat.ble a 104) (cond (Nat.beq a 104) ((decide (i = .imul) && Nat.beq n 1)) (decide (decode A p = .ok (i, n)))) (cond (Nat.beq a 105) ((decide (i = .lmul) && Nat.beq n 1)) (decide (decode A p = .ok (i, n)))))))) (cond (Nat.ble a 120) (cond (Nat.ble a 112) (cond (Nat.ble a 108) (cond (Nat.beq a 108) ((decide (i = .idiv) && Nat.beq n 1)) (decide (decode A p = .ok (i, n)))) (cond (Nat.ble a 109) (cond (Nat.beq a 109) ((decide (i = .ldiv) && Nat.beq n 1)) (decide (decode A p = .ok (i, n)))) (cond (Nat.beq a 112) ((decide (i = .irem) && Nat.beq n 1)) (decide (decode A p = .ok (i, n)))))) (cond (Nat.ble a 113) (cond (Nat.beq a 113) ((decide (i = .lrem) && Nat.beq n 1)) (decide (decode A p = .ok (i, n)))) (cond (Nat.ble a 116) (cond (Nat.beq a 116) ((decide (i = .ineg) && Nat.beq n 1)) (decide (decode A p = .ok (i, n)))) (cond (Nat.beq a 120) ((decide (i = .ishl) && Nat.beq n 1)) (decide (decode A p = .ok (i, n))))))) (cond (Nat.ble a 126) (cond (Nat.ble a 122) (cond (Nat.beq a 122) ((decide (i = .ishr) && Nat.beq n 1)) (decide (decode A p = .ok (i, n)))) (cond (Nat.ble a 124) (cond (Nat.beq a 124) ((decide (i = .iushr) && Nat.beq n 1)) (decide (decode A p = .ok (i, n)))) (cond (Nat.beq a 126) ((decide (i = .iand) && Nat.beq n 1)) (decide (decode A p = .ok (i, n)))))) (cond (Nat.ble a 130) (cond (Nat.ble a 128) (cond (Nat.beq a 128) ((decide (i = .ior) && Nat.beq n 1)) (decide (decode A p = .ok (i, n)))) (cond (Nat.beq a 130) ((decide (i = .ixor) && Nat.beq n 1)) (decide (decode A p = .ok (i, n))))) (cond (Nat.ble a 132) (cond (Nat.beq a 132) (dq_b2 r (fun x y => decide (i = .iinc x (Reader.signed 8 y)) && Nat.beq n 3)) (decide (decode A p = .ok (i, n)))) (cond (Nat.beq a 133) ((decide (i = .i2l) && Nat.beq n 1)) (decide (decode A p = .ok (i, n))))))))) (cond (Nat.ble a 162) (cond (Nat.ble a 155) (cond (Nat.ble a 148) (cond (Nat.ble a 145) (cond (Nat.beq a 145) ((decide (i = .i2b) && Nat.beq n 1)) (decide (decode A p = .ok (i, n)))) (cond (Nat.ble a 147) (cond (Nat.beq a 147) ((decide (i = .i2s) && Nat.beq n 1)) (decide (decode A p = .ok (i, n)))) (cond (Nat.beq a 148) ((decide (i = .lcmp) && Nat.beq n 1)) (decide (decode A p = .ok (i, n)))))) (cond (Nat.ble a 153) (cond (Nat.beq a 153) (dq_b2 r (fun x y => decide (i = .ifCond .eq (Reader.signed 16 (x * 256 + y))) && Nat.beq n 3)) (decide (decode A p = .ok (i, n)))) (cond (Nat.ble a 154) (cond (Nat.beq a 154) (dq_b2 r (fun x y => decide (i = .ifCond .ne (Reader.signed 16 (x * 256 + y))) && Nat.beq n 3)) (decide (decode A p = .ok (i, n)))) (cond (Nat.beq a 155) (dq_b2 r (fun x y => decide (i = .ifCond .lt (Reader.signed 16 (x * 256 + y))) && Nat.beq n 3)) (decide (decode A p = .ok (i, n))))))) (cond (Nat.ble a 158) (cond (Nat.ble a 156) (cond (Nat.beq a 156) (dq_b2 r (fun x y => decide (i = .ifCond .ge (Reader.signed 16 (x * 256 + y))) && Nat.beq n 3)) (decide (decode A p = .ok (i, n)))) (cond (Nat.ble a 157) (cond (Nat.beq a 157) (dq_b2 r (fun x y => decide (i = .ifCond .gt (Reader.signed 16 (x * 256 + y))) && Nat.beq n 3)) (decide (decode A p = .ok (i, n)))) (cond (Nat.beq a 158) (dq_b2 r (fun x y => decide (i = .ifCond .le (Reader.signed 16 (x * 256 + y))) && Nat.beq n 3)) (decide (decode A p = .ok (i, n)))))) (cond (Nat.ble a 160) (cond (Nat.ble a 159) (cond (Nat.beq a 159) (dq_b2 r (fun x y => decide (i = .if_icmp .eq (Reader.signed 16 (x * 256 + y))) && Nat.beq n 3)) (decide (decode A p = .ok (i, n)))) (cond (Nat.beq a 160) (dq_b2 r (fun x y => decide (i = .if_icmp .ne (Reader.signed 16 (x * 256 + y))) && Nat.beq n 3)) (decide (decode A p = .ok (i, n))))) (cond (Nat.ble a 161) (cond (Nat.beq a 161) (dq_b2 r (fun x y => decide (i = .if_icmp .lt (Reader.signed 16 (x * 256 + y))) && Nat.beq n 3)) (decide (decode A p = .ok (i, n)))) (cond (Nat.beq a 162) (dq_b2 r (fun x y => decide (i = .if_icmp .ge (Reader.signed 16 (x * 256 + y))) && Nat.beq n 3)) (decide (decode A p = .ok (i, n)))))))) (cond (Nat.ble a 177) (cond (Nat.ble a 167) (cond (Nat.ble a 163) (cond (Nat.beq a 163) (dq_b2 r (fun x y => decide (i = .if_icmp .gt (Reader.signed 16 (x * 256 + y))) && Nat.beq n 3)) (decide (decode A p = .ok (i, n)))) (cond (Nat.ble a 164) (cond (Nat.beq a 164) (dq_b2 r (fun x y => decide (i = .if_icmp .le (Reader.signed 16 (x * 256 + y))) && Nat.beq n 3)) (decide (decode A p = .ok (i, n)))) (cond (Nat.beq a 167) (dq_b2 r (fun x y => decide (i = .goto (Reader.signed 16 (x * 256 + y))) && Nat.beq n 3)) (decide (decode A p = .ok (i, n)))))) (cond (Nat.ble a 172) (cond (Nat.beq a 172) ((decide (i = .ireturn) && Nat.beq n 1)) (decide (decode A p = .ok (i, n)))) (cond (Nat.ble a 173) (cond (Nat.beq a 173) ((decide (i = .lreturn) && Nat.beq n 1)) (decide (decode A p = .ok (i, n)))) (cond (Nat.beq a 177) ((decide (i = .return_) && Nat.beq n 1)) (decide (decode A p = .ok (i, n))))))) (cond (Nat.ble a 182) (cond (Nat.ble a 180) (cond (Nat.beq a 180) (dq_b2 r (fun x y => decide (i = .getfield (x * 256 + y)) && Nat.beq n 3)) (decide (decode A p = .ok (i, n)))) (cond (Nat.ble a 181) (cond (Nat.beq a 181) (dq_b2 r (fun x y => decide (i = .putfield (x * 256 + y)) && Nat.beq n 3)) (decide (decode A p = .ok (i, n)))) (cond (Nat.beq a 182) (dq_b2 r (fun x y => decide (i = .invokevirtual (x * 256 + y)) && Nat.beq n 3)) (decide (decode A p = .ok (i, n)))))) (cond (Nat.ble a 184) (cond (Nat.ble a 183) (cond (Nat.beq a 183) (dq_b2 r (fun x y => decide (i = .invokespecial (x * 256 + y)) && Nat.beq n 3)) (decide (decode A p = .ok (i, n)))) (cond (Nat.beq a 184) (dq_b2 r (fun x y => decide (i = .invokestatic (x * 256 + y)) && Nat.beq n 3)) (decide (decode A p = .ok (i, n))))) (cond (Nat.ble a 187) (cond (Nat.beq a 187) (dq_b2 r (fun x y => decide (i = .new (x * 256 + y)) && Nat.beq n 3)) (decide (decode A p = .ok (i, n)))) (cond (Nat.beq a 190) ((decide (i = .arraylength) && Nat.beq n 1)) (decide (decode A p = .ok (i, n)))))))))))
theorem dq_cko {A : ByteArray} {p n : Nat} {b : UInt8} {r : List UInt8} {i : Instr} (hd : A.data.toList.drop p = b :: r) (h : dq_ck A p b.toNat r i n = true) : decode A p = .ok (i, n) := by
  unfold dq_ck at h
  exact ((dq_ct h).elim (fun h => have h := h.2; ((dq_ct h).elim (fun h => have h := h.2; ((dq_ct h).elim (fun h => have h := h.2; ((dq_ct h).elim (fun h => have h := h.2; ((dq_ct h).elim (fun h => have h := h.2; ((dq_ct h).elim (fun h => have h := h.2; ((dq_ct h).elim (fun h => dq_L2 hd (Nat.eq_of_beq_eq_true h.1) h.2) (fun h => of_decide_eq_true h.2))) (fun h => have h := h.2; ((dq_ct h).elim (fun h => have h := h.2; ((dq_ct h).elim (fun h => dq_L3 hd (Nat.eq_of_beq_eq_true h.1) h.2) (fun h => of_decide_eq_true h.2))) (fun h => have h := h.2; ((dq_ct h).elim (fun h => dq_L4 hd (Nat.eq_of_beq_eq_true h.1) h.2) (fun h => of_decide_eq_true h.2))))))) (fun h => have h := h.2; ((dq_ct h).elim (fun h => have h := h.2; ((dq_ct h).elim (fun h => dq_L5 hd (Nat.eq_of_beq_eq_true h.1) h.2) (fun h => of_decide_eq_true h.2))) (fun h => have h := h.2; ((dq_ct h).elim (fun h => have h := h.2; ((dq_ct h).elim (fun h => dq_L6 hd (Nat.eq_of_beq_eq_true h.1) h.2) (fun h => of_decide_eq_true h.2))) (fun h => have h := h.2; ((dq_ct h).elim (fun h => dq_L7 hd (Nat.eq_of_beq_eq_true h.1) h.2) (fun h => of_decide_eq_true h.2))))))))) (fun h => have h := h.2; ((dq_ct h).elim (fun h => have h := h.2; ((dq_ct h).elim (fun h => have h := h.2; ((dq_ct h).elim (fun h => dq_L8 hd (Nat.eq_of_beq_eq_true h.1) h.2) (fun h => of_decide_eq_true h.2))) (fun h => have h := h.2; ((dq_ct h).elim (fun h => have h := h.2; ((dq_ct h).elim (fun h => dq_L9 hd (Nat.eq_of_beq_eq_true h.1) h.2) (fun h => of_decide_eq_true h.2))) (fun h => have h := h.2; ((dq_ct h).elim (fun h => dq_L10 hd (Nat.eq_of_beq_eq_true h.1) h.2) (fun h => of_decide_eq_true h.2))))))) (fun h => have h := h.2; ((dq_ct h).elim (fun h => have h := h.2; ((dq_ct h).elim (fun h => dq_L16 hd (Nat.eq_of_beq_eq_true h.1) h.2) (fun h => of_decide_eq_true h.2))) (fun h => have h := h.2; ((dq_ct h).elim (fun h => have h := h.2; ((dq_ct h).elim (fun h => dq_L17 hd (Nat.eq_of_beq_eq_true h.1) h.2) (fun h => of_decide_eq_true h.2))) (fun h => have h := h.2; ((dq_ct h).elim (fun h => dq_L18 hd (Nat.eq_of_beq_eq_true h.1) h.2) (fun h => of_decide_eq_true h.2))))))))))) (fun h => have h := h.2; ((dq_ct h).elim (fun h => have h := h.2; ((dq_ct h).elim (fun h => have h := h.2; ((dq_ct h).elim (fun h => have h := h.2; ((dq_ct h).elim (fun h => dq_L19 hd (Nat.eq_of_beq_eq_true h.1) h.2) (fun h => of_decide_eq_true h.2))) (fun h => have h := h.2; ((dq_ct h).elim (fun h => have h := h.2; ((dq_ct h).elim (fun h => dq_L20 hd (Nat.eq_of_beq_eq_true h.1) h.2) (fun h => of_decide_eq_true h.2))) (fun h => have h := h.2; ((dq_ct h).elim (fun h => dq_L21 hd (Nat.eq_of_beq_eq_true h.1) h.2) (fun h => of_decide_eq_true h.2))))))) (fun h => have h := h.2; ((dq_ct h).elim (fun h => have h := h.2; ((dq_ct h).elim (fun h => dq_L22 hd (Nat.eq_of_beq_eq_true h.1) h.2) (fun h => of_decide_eq_true h.2))) (fun h => have h := h.2; ((dq_ct h).elim (fun h => have h := h.2; ((dq_ct h).elim (fun h => dq_L25 hd (Nat.eq_of_beq_eq_true h.1) h.2) (fun h => of_decide_eq_true h.2))) (fun h => have h := h.2; ((dq_ct h).elim (fun h => dq_L26 hd (Nat.eq_of_beq_eq_true h.1) h.2) (fun h => of_decide_eq_true h.2))))))))) (fun h => have h := h.2; ((dq_ct h).elim (fun h => have h := h.2; ((dq_ct h).elim (fun h => have h := h.2; ((dq_ct h).elim (fun h => dq_L27 hd (Nat.eq_of_beq_eq_true h.1) h.2) (fun h => of_decide_eq_true h.2))) (fun h => have h := h.2; ((dq_ct h).elim (fun h => have h := h.2; ((dq_ct h).elim (fun h => dq_L28 hd (Nat.eq_of_beq_eq_true h.1) h.2) (fun h => of_decide_eq_true h.2))) (fun h => have h := h.2; ((dq_ct h).elim (fun h => dq_L29 hd (Nat.eq_of_beq_eq_true h.1) h.2) (fun h => of_decide_eq_true h.2))))))) (fun h => have h := h.2; ((dq_ct h).elim (fun h => have h := h.2; ((dq_ct h).elim (fun h => have h := h.2; ((dq_ct h).elim (fun h => dq_L30 hd (Nat.eq_of_beq_eq_true h.1) h.2) (fun h => of_decide_eq_true h.2))) (fun h => have h := h.2; ((dq_ct h).elim (fun h => dq_L31 hd (Nat.eq_of_beq_eq_true h.1) h.2) (fun h => of_decide_eq_true h.2))))) (fun h => have h := h.2; ((dq_ct h).elim (fun h => have h := h.2; ((dq_ct h).elim (fun h => dq_L32 hd (Nat.eq_of_beq_eq_true h.1) h.2) (fun h => of_decide_eq_true h.2))) (fun h => have h := h.2; ((dq_ct h).elim (fun h => dq_L33 hd (Nat.eq_of_beq_eq_true h.1) h.2) (fun h => of_decide_eq_true h.2))))))))))))) (fun h => have h := h.2; ((dq_ct h).elim (fun h => have h := h.2; ((dq_ct h).elim (fun h => have h := h.2; ((dq_ct h).elim (fun h => have h := h.2; ((dq_ct h).elim (fun h => have h := h.2; ((dq_ct h).elim (fun h => dq_L42 hd (Nat.eq_of_beq_eq_true h.1) h.2) (fun h => of_decide_eq_true h.2))) (fun h => have h := h.2; ((dq_ct h).elim (fun h => have h := h.2; ((dq_ct h).elim (fun h => dq_L43 hd (Nat.eq_of_beq_eq_true h.1) h.2) (fun h => of_decide_eq_true h.2))) (fun h => have h := h.2; ((dq_ct h).elim (fun h => dq_L44 hd (Nat.eq_of_beq_eq_true h.1) h.2) (fun h => of_decide_eq_true h.2))))))) (fun h => have h := h.2; ((dq_ct h).elim (fun h => have h := h.2; ((dq_ct h).elim (fun h => dq_L45 hd (Nat.eq_of_beq_eq_true h.1) h.2) (fun h => of_decide_eq_true h.2))) (fun h => have h := h.2; ((dq_ct h).elim (fun h => have h := h.2; ((dq_ct h).elim (fun h => dq_L46 hd (Nat.eq_of_beq_eq_true h.1) h.2) (fun h => of_decide_eq_true h.2))) (fun h => have h := h.2; ((dq_ct h).elim (fun h => dq_L47 hd (Nat.eq_of_beq_eq_true h.1) h.2) (fun h => of_decide_eq_true h.2))))))))) (fun h => have h := h.2; ((dq_ct h).elim (fun h => have h := h.2; ((dq_ct h).elim (fun h => have h := h.2; ((dq_ct h).elim (fun h => dq_L50 hd (Nat.eq_of_beq_eq_true h.1) h.2) (fun h => of_decide_eq_true h.2))) (fun h => have h := h.2; ((dq_ct h).elim (fun h => have h := h.2; ((dq_ct h).elim (fun h => dq_L51 hd (Nat.eq_of_beq_eq_true h.1) h.2) (fun h => of_decide_eq_true h.2))) (fun h => have h := h.2; ((dq_ct h).elim (fun h => dq_L52 hd (Nat.eq_of_beq_eq_true h.1) h.2) (fun h => of_decide_eq_true h.2))))))) (fun h => have h := h.2; ((dq_ct h).elim (fun h => have h := h.2; ((dq_ct h).elim (fun h => have h := h.2; ((dq_ct h).elim (fun h => dq_L54 hd (Nat.eq_of_beq_eq_true h.1) h.2) (fun h => of_decide_eq_true h.2))) (fun h => have h := h.2; ((dq_ct h).elim (fun h => dq_L55 hd (Nat.eq_of_beq_eq_true h.1) h.2) (fun h => of_decide_eq_true h.2))))) (fun h => have h := h.2; ((dq_ct h).elim (fun h => have h := h.2; ((dq_ct h).elim (fun h => dq_L58 hd (Nat.eq_of_beq_eq_true h.1) h.2) (fun h => of_decide_eq_true h.2))) (fun h => have h := h.2; ((dq_ct h).elim (fun h => dq_L59 hd (Nat.eq_of_beq_eq_true h.1) h.2) (fun h => of_decide_eq_true h.2))))))))))) (fun h => have h := h.2; ((dq_ct h).elim (fun h => have h := h.2; ((dq_ct h).elim (fun h => have h := h.2; ((dq_ct h).elim (fun h => have h := h.2; ((dq_ct h).elim (fun h => dq_L60 hd (Nat.eq_of_beq_eq_true h.1) h.2) (fun h => of_decide_eq_true h.2))) (fun h => have h := h.2; ((dq_ct h).elim (fun h => have h := h.2; ((dq_ct h).elim (fun h => dq_L61 hd (Nat.eq_of_beq_eq_true h.1) h.2) (fun h => of_decide_eq_true h.2))) (fun h => have h := h.2; ((dq_ct h).elim (fun h => dq_L62 hd (Nat.eq_of_beq_eq_true h.1) h.2) (fun h => of_decide_eq_true h.2))))))) (fun h => have h := h.2; ((dq_ct h).elim (fun h => have h := h.2; ((dq_ct h).elim (fun h => dq_L63 hd (Nat.eq_of_beq_eq_true h.1) h.2) (fun h => of_decide_eq_true h.2))) (fun h => have h := h.2; ((dq_ct h).elim (fun h => have h := h.2; ((dq_ct h).elim (fun h => dq_L64 hd (Nat.eq_of_beq_eq_true h.1) h.2) (fun h => of_decide_eq_true h.2))) (fun h => have h := h.2; ((dq_ct h).elim (fun h => dq_L65 hd (Nat.eq_of_beq_eq_true h.1) h.2) (fun h => of_decide_eq_true h.2))))))))) (fun h => have h := h.2; ((dq_ct h).elim (fun h => have h := h.2; ((dq_ct h).elim (fun h => have h := h.2; ((dq_ct h).elim (fun h => dq_L66 hd (Nat.eq_of_beq_eq_true h.1) h.2) (fun h => of_decide_eq_true h.2))) (fun h => have h := h.2; ((dq_ct h).elim (fun h => have h := h.2; ((dq_ct h).elim (fun h => dq_L75 hd (Nat.eq_of_beq_eq_true h.1) h.2) (fun h => of_decide_eq_true h.2))) (fun h => have h := h.2; ((dq_ct h).elim (fun h => dq_L76 hd (Nat.eq_of_beq_eq_true h.1) h.2) (fun h => of_decide_eq_true h.2))))))) (fun h => have h := h.2; ((dq_ct h).elim (fun h => have h := h.2; ((dq_ct h).elim (fun h => have h := h.2; ((dq_ct h).elim (fun h => dq_L77 hd (Nat.eq_of_beq_eq_true h.1) h.2) (fun h => of_decide_eq_true h.2))) (fun h => have h := h.2; ((dq_ct h).elim (fun h => dq_L78 hd (Nat.eq_of_beq_eq_true h.1) h.2) (fun h => of_decide_eq_true h.2))))) (fun h => have h := h.2; ((dq_ct h).elim (fun h => have h := h.2; ((dq_ct h).elim (fun h => dq_L79 hd (Nat.eq_of_beq_eq_true h.1) h.2) (fun h => of_decide_eq_true h.2))) (fun h => have h := h.2; ((dq_ct h).elim (fun h => dq_L80 hd (Nat.eq_of_beq_eq_true h.1) h.2) (fun h => of_decide_eq_true h.2))))))))))))))) (fun h => have h := h.2; ((dq_ct h).elim (fun h => have h := h.2; ((dq_ct h).elim (fun h => have h := h.2; ((dq_ct h).elim (fun h => have h := h.2; ((dq_ct h).elim (fun h => have h := h.2; ((dq_ct h).elim (fun h => have h := h.2; ((dq_ct h).elim (fun h => dq_L83 hd (Nat.eq_of_beq_eq_true h.1) h.2) (fun h => of_decide_eq_true h.2))) (fun h => have h := h.2; ((dq_ct h).elim (fun h => have h := h.2; ((dq_ct h).elim (fun h => dq_L84 hd (Nat.eq_of_beq_eq_true h.1) h.2) (fun h => of_decide_eq_true h.2))) (fun h => have h := h.2; ((dq_ct h).elim (fun h => dq_L85 hd (Nat.eq_of_beq_eq_true h.1) h.2) (fun h => of_decide_eq_true h.2))))))) (fun h => have h := h.2; ((dq_ct h).elim (fun h => have h := h.2; ((dq_ct h).elim (fun h => dq_L87 hd (Nat.eq_of_beq_eq_true h.1) h.2) (fun h => of_decide_eq_true h.2))) (fun h => have h := h.2; ((dq_ct h).elim (fun h => have h := h.2; ((dq_ct h).elim (fun h => dq_L89 hd (Nat.eq_of_beq_eq_true h.1) h.2) (fun h => of_decide_eq_true h.2))) (fun h => have h := h.2; ((dq_ct h).elim (fun h => dq_L92 hd (Nat.eq_of_beq_eq_true h.1) h.2) (fun h => of_decide_eq_true h.2))))))))) (fun h => have h := h.2; ((dq_ct h).elim (fun h => have h := h.2; ((dq_ct h).elim (fun h => have h := h.2; ((dq_ct h).elim (fun h => dq_L96 hd (Nat.eq_of_beq_eq_true h.1) h.2) (fun h => of_decide_eq_true h.2))) (fun h => have h := h.2; ((dq_ct h).elim (fun h => have h := h.2; ((dq_ct h).elim (fun h => dq_L97 hd (Nat.eq_of_beq_eq_true h.1) h.2) (fun h => of_decide_eq_true h.2))) (fun h => have h := h.2; ((dq_ct h).elim (fun h => dq_L100 hd (Nat.eq_of_beq_eq_true h.1) h.2) (fun h => of_decide_eq_true h.2))))))) (fun h => have h := h.2; ((dq_ct h).elim (fun h => have h := h.2; ((dq_ct h).elim (fun h => dq_L101 hd (Nat.eq_of_beq_eq_true h.1) h.2) (fun h => of_decide_eq_true h.2))) (fun h => have h := h.2; ((dq_ct h).elim (fun h => have h := h.2; ((dq_ct h).elim (fun h => dq_L104 hd (Nat.eq_of_beq_eq_true h.1) h.2) (fun h => of_decide_eq_true h.2))) (fun h => have h := h.2; ((dq_ct h).elim (fun h => dq_L105 hd (Nat.eq_of_beq_eq_true h.1) h.2) (fun h => of_decide_eq_true h.2))))))))))) (fun h => have h := h.2; ((dq_ct h).elim (fun h => have h := h.2; ((dq_ct h).elim (fun h => have h := h.2; ((dq_ct h).elim (fun h => have h := h.2; ((dq_ct h).elim (fun h => dq_L108 hd (Nat.eq_of_beq_eq_true h.1) h.2) (fun h => of_decide_eq_true h.2))) (fun h => have h := h.2; ((dq_ct h).elim (fun h => have h := h.2; ((dq_ct h).elim (fun h => dq_L109 hd (Nat.eq_of_beq_eq_true h.1) h.2) (fun h => of_decide_eq_true h.2))) (fun h => have h := h.2; ((dq_ct h).elim (fun h => dq_L112 hd (Nat.eq_of_beq_eq_true h.1) h.2) (fun h => of_decide_eq_true h.2))))))) (fun h => have h := h.2; ((dq_ct h).elim (fun h => have h := h.2; ((dq_ct h).elim (fun h => dq_L113 hd (Nat.eq_of_beq_eq_true h.1) h.2) (fun h => of_decide_eq_true h.2))) (fun h => have h := h.2; ((dq_ct h).elim (fun h => have h := h.2; ((dq_ct h).elim (fun h => dq_L116 hd (Nat.eq_of_beq_eq_true h.1) h.2) (fun h => of_decide_eq_true h.2))) (fun h => have h := h.2; ((dq_ct h).elim (fun h => dq_L120 hd (Nat.eq_of_beq_eq_true h.1) h.2) (fun h => of_decide_eq_true h.2))))))))) (fun h => have h := h.2; ((dq_ct h).elim (fun h => have h := h.2; ((dq_ct h).elim (fun h => have h := h.2; ((dq_ct h).elim (fun h => dq_L122 hd (Nat.eq_of_beq_eq_true h.1) h.2) (fun h => of_decide_eq_true h.2))) (fun h => have h := h.2; ((dq_ct h).elim (fun h => have h := h.2; ((dq_ct h).elim (fun h => dq_L124 hd (Nat.eq_of_beq_eq_true h.1) h.2) (fun h => of_decide_eq_true h.2))) (fun h => have h := h.2; ((dq_ct h).elim (fun h => dq_L126 hd (Nat.eq_of_beq_eq_true h.1) h.2) (fun h => of_decide_eq_true h.2))))))) (fun h => have h := h.2; ((dq_ct h).elim (fun h => have h := h.2; ((dq_ct h).elim (fun h => have h := h.2; ((dq_ct h).elim (fun h => dq_L128 hd (Nat.eq_of_beq_eq_true h.1) h.2) (fun h => of_decide_eq_true h.2))) (fun h => have h := h.2; ((dq_ct h).elim (fun h => dq_L130 hd (Nat.eq_of_beq_eq_true h.1) h.2) (fun h => of_decide_eq_true h.2))))) (fun h => have h := h.2; ((dq_ct h).elim (fun h => have h := h.2; ((dq_ct h).elim (fun h => dq_L132 hd (Nat.eq_of_beq_eq_true h.1) h.2) (fun h => of_decide_eq_true h.2))) (fun h => have h := h.2; ((dq_ct h).elim (fun h => dq_L133 hd (Nat.eq_of_beq_eq_true h.1) h.2) (fun h => of_decide_eq_true h.2))))))))))))) (fun h => have h := h.2; ((dq_ct h).elim (fun h => have h := h.2; ((dq_ct h).elim (fun h => have h := h.2; ((dq_ct h).elim (fun h => have h := h.2; ((dq_ct h).elim (fun h => have h := h.2; ((dq_ct h).elim (fun h => dq_L145 hd (Nat.eq_of_beq_eq_true h.1) h.2) (fun h => of_decide_eq_true h.2))) (fun h => have h := h.2; ((dq_ct h).elim (fun h => have h := h.2; ((dq_ct h).elim (fun h => dq_L147 hd (Nat.eq_of_beq_eq_true h.1) h.2) (fun h => of_decide_eq_true h.2))) (fun h => have h := h.2; ((dq_ct h).elim (fun h => dq_L148 hd (Nat.eq_of_beq_eq_true h.1) h.2) (fun h => of_decide_eq_true h.2))))))) (fun h => have h := h.2; ((dq_ct h).elim (fun h => have h := h.2; ((dq_ct h).elim (fun h => dq_L153 hd (Nat.eq_of_beq_eq_true h.1) h.2) (fun h => of_decide_eq_true h.2))) (fun h => have h := h.2; ((dq_ct h).elim (fun h => have h := h.2; ((dq_ct h).elim (fun h => dq_L154 hd (Nat.eq_of_beq_eq_true h.1) h.2) (fun h => of_decide_eq_true h.2))) (fun h => have h := h.2; ((dq_ct h).elim (fun h => dq_L155 hd (Nat.eq_of_beq_eq_true h.1) h.2) (fun h => of_decide_eq_true h.2))))))))) (fun h => have h := h.2; ((dq_ct h).elim (fun h => have h := h.2; ((dq_ct h).elim (fun h => have h := h.2; ((dq_ct h).elim (fun h => dq_L156 hd (Nat.eq_of_beq_eq_true h.1) h.2) (fun h => of_decide_eq_true h.2))) (fun h => have h := h.2; ((dq_ct h).elim (fun h => have h := h.2; ((dq_ct h).elim (fun h => dq_L157 hd (Nat.eq_of_beq_eq_true h.1) h.2) (fun h => of_decide_eq_true h.2))) (fun h => have h := h.2; ((dq_ct h).elim (fun h => dq_L158 hd (Nat.eq_of_beq_eq_true h.1) h.2) (fun h => of_decide_eq_true h.2))))))) (fun h => have h := h.2; ((dq_ct h).elim (fun h => have h := h.2; ((dq_ct h).elim (fun h => have h := h.2; ((dq_ct h).elim (fun h => dq_L159 hd (Nat.eq_of_beq_eq_true h.1) h.2) (fun h => of_decide_eq_true h.2))) (fun h => have h := h.2; ((dq_ct h).elim (fun h => dq_L160 hd (Nat.eq_of_beq_eq_true h.1) h.2) (fun h => of_decide_eq_true h.2))))) (fun h => have h := h.2; ((dq_ct h).elim (fun h => have h := h.2; ((dq_ct h).elim (fun h => dq_L161 hd (Nat.eq_of_beq_eq_true h.1) h.2) (fun h => of_decide_eq_true h.2))) (fun h => have h := h.2; ((dq_ct h).elim (fun h => dq_L162 hd (Nat.eq_of_beq_eq_true h.1) h.2) (fun h => of_decide_eq_true h.2))))))))))) (fun h => have h := h.2; ((dq_ct h).elim (fun h => have h := h.2; ((dq_ct h).elim (fun h => have h := h.2; ((dq_ct h).elim (fun h => have h := h.2; ((dq_ct h).elim (fun h => dq_L163 hd (Nat.eq_of_beq_eq_true h.1) h.2) (fun h => of_decide_eq_true h.2))) (fun h => have h := h.2; ((dq_ct h).elim (fun h => have h := h.2; ((dq_ct h).elim (fun h => dq_L164 hd (Nat.eq_of_beq_eq_true h.1) h.2) (fun h => of_decide_eq_true h.2))) (fun h => have h := h.2; ((dq_ct h).elim (fun h => dq_L167 hd (Nat.eq_of_beq_eq_true h.1) h.2) (fun h => of_decide_eq_true h.2))))))) (fun h => have h := h.2; ((dq_ct h).elim (fun h => have h := h.2; ((dq_ct h).elim (fun h => dq_L172 hd (Nat.eq_of_beq_eq_true h.1) h.2) (fun h => of_decide_eq_true h.2))) (fun h => have h := h.2; ((dq_ct h).elim (fun h => have h := h.2; ((dq_ct h).elim (fun h => dq_L173 hd (Nat.eq_of_beq_eq_true h.1) h.2) (fun h => of_decide_eq_true h.2))) (fun h => have h := h.2; ((dq_ct h).elim (fun h => dq_L177 hd (Nat.eq_of_beq_eq_true h.1) h.2) (fun h => of_decide_eq_true h.2))))))))) (fun h => have h := h.2; ((dq_ct h).elim (fun h => have h := h.2; ((dq_ct h).elim (fun h => have h := h.2; ((dq_ct h).elim (fun h => dq_L180 hd (Nat.eq_of_beq_eq_true h.1) h.2) (fun h => of_decide_eq_true h.2))) (fun h => have h := h.2; ((dq_ct h).elim (fun h => have h := h.2; ((dq_ct h).elim (fun h => dq_L181 hd (Nat.eq_of_beq_eq_true h.1) h.2) (fun h => of_decide_eq_true h.2))) (fun h => have h := h.2; ((dq_ct h).elim (fun h => dq_L182 hd (Nat.eq_of_beq_eq_true h.1) h.2) (fun h => of_decide_eq_true h.2))))))) (fun h => have h := h.2; ((dq_ct h).elim (fun h => have h := h.2; ((dq_ct h).elim (fun h => have h := h.2; ((dq_ct h).elim (fun h => dq_L183 hd (Nat.eq_of_beq_eq_true h.1) h.2) (fun h => of_decide_eq_true h.2))) (fun h => have h := h.2; ((dq_ct h).elim (fun h => dq_L184 hd (Nat.eq_of_beq_eq_true h.1) h.2) (fun h => of_decide_eq_true h.2))))) (fun h => have h := h.2; ((dq_ct h).elim (fun h => have h := h.2; ((dq_ct h).elim (fun h => dq_L187 hd (Nat.eq_of_beq_eq_true h.1) h.2) (fun h => of_decide_eq_true h.2))) (fun h => have h := h.2; ((dq_ct h).elim (fun h => dq_L190 hd (Nat.eq_of_beq_eq_true h.1) h.2) (fun h => of_decide_eq_true h.2))))))))))))))))
noncomputable def dq_dr (n : Nat) : List UInt8 → List UInt8 := Nat.rec (motive := fun _ => List UInt8 → List UInt8) (fun l => l) (fun _ ih l => List.rec (motive := fun _ => List UInt8) [] (fun _ t _ => ih t) l) n
theorem dq_drx : ∀ (n : Nat) (l : List UInt8), dq_dr n l = l.drop n
  | 0, l => rfl
  | n + 1, [] => rfl
  | n + 1, c :: t => dq_drx n t
noncomputable def dq_one (l : List UInt8) (f : Nat → List UInt8 → Bool) (k : List UInt8 → Bool) : Bool := List.rec (motive := fun _ => Bool) false (fun b r _ => cond (f b.toNat r) (k (b :: r)) false) l
noncomputable def dq_row (A : ByteArray) (c : List (Nat × Instr × Nat)) : Nat → List UInt8 → (Nat → List UInt8 → Bool) → Bool := List.rec (motive := fun _ => Nat → List UInt8 → (Nat → List UInt8 → Bool) → Bool) (fun p l k => k p l) (fun e _ ih p l k => cond (Nat.ble p e.1) (dq_one (dq_dr (e.1 - p) l) (fun a r => dq_ck A e.1 a r e.2.1 e.2.2) (fun l2 => ih e.1 l2 k)) false) c
noncomputable def dq_go (A : ByteArray) (cs : List (List (Nat × Instr × Nat))) : Nat → List UInt8 → Bool := List.rec (motive := fun _ => Nat → List UInt8 → Bool) (fun _ _ => true) (fun c _ ih p l => dq_row A c p l ih) cs
theorem dq_rowx (A : ByteArray) : ∀ (c : List (Nat × Instr × Nat)) (p : Nat) (l : List UInt8) (k : Nat → List UInt8 → Bool), A.data.toList.drop p = l → dq_row A c p l k = true → c.all (fun e => decide (decode A e.1 = .ok e.2)) = true ∧ ∃ p2 l2, A.data.toList.drop p2 = l2 ∧ k p2 l2 = true
  | [], p, l, k, hl, h => ⟨rfl, p, l, hl, h⟩
  | e :: c, p, l, k, hl, h => by
    have h : cond (Nat.ble p e.1) (dq_one (dq_dr (e.1 - p) l) (fun a r => dq_ck A e.1 a r e.2.1 e.2.2) (fun l2 => dq_row A c e.1 l2 k)) false = true := h
    rcases dq_ct h with h1 | h1
    · have hp := Nat.le_of_ble_eq_true h1.1
      have hl2 : A.data.toList.drop e.1 = dq_dr (e.1 - p) l := by
        rw [dq_drx, ← hl, List.drop_drop, Nat.add_sub_of_le hp]
      have h2 := h1.2
      cases hc : dq_dr (e.1 - p) l with
      | nil => rw [hc] at h2; exact absurd (show false = true from h2) (by decide)
      | cons b r =>
        rw [hc] at h2 hl2
        have h2 : cond (dq_ck A e.1 b.toNat r e.2.1 e.2.2) (dq_row A c e.1 (b :: r) k) false = true := h2
        rcases dq_ct h2 with h3 | h3
        · have h4 : decode A e.1 = .ok e.2 := dq_cko hl2 h3.1
          obtain ⟨h5, h6⟩ := dq_rowx A c e.1 (b :: r) k hl2 h3.2
          refine ⟨?_, h6⟩
          rw [List.all_cons, decide_eq_true h4, h5]; rfl
        · exact absurd h3.2 (by decide)
    · exact absurd h1.2 (by decide)
theorem dq_gox (A : ByteArray) : ∀ (cs : List (List (Nat × Instr × Nat))) (p : Nat) (l : List UInt8), A.data.toList.drop p = l → dq_go A cs p l = true → cs.all (fun c => c.all (fun e => decide (decode A e.1 = .ok e.2))) = true
  | [], p, l, hl, h => rfl
  | c :: cs, p, l, hl, h => by
    obtain ⟨h1, p2, l2, hl2, h2⟩ := dq_rowx A c p l (dq_go A cs) hl h
    rw [List.all_cons, h1, dq_gox A cs p2 l2 hl2 h2]; rfl
theorem dq_ok {A : ByteArray} {cs : List (List (Nat × Instr × Nat))} (h : dq_go A cs 0 A.data.toList = true) : cs.all (fun c => c.all (fun e => decide (decode A e.1 = .ok e.2))) = true := dq_gox A cs 0 A.data.toList rfl h
end MH00listsx5
section MH00listsx6
section MG04dec00x0
theorem imk_0 : im_0.all (fun c => c.all (fun e => decide (decode prog_2_method_1_code e.1 = .ok e.2))) = true := dq_ok (by decide +kernel)
theorem imk_1 : im_1.all (fun c => c.all (fun e => decide (decode prog_2_method_2_code e.1 = .ok e.2))) = true := dq_ok (by decide +kernel)
theorem imk_2 : im_2.all (fun c => c.all (fun e => decide (decode prog_2_method_3_code e.1 = .ok e.2))) = true := dq_ok (by decide +kernel)
theorem imk_3 : im_3.all (fun c => c.all (fun e => decide (decode prog_2_method_4_code e.1 = .ok e.2))) = true := dq_ok (by decide +kernel)
theorem imk_4 : im_4.all (fun c => c.all (fun e => decide (decode prog_2_method_5_code e.1 = .ok e.2))) = true := dq_ok (by decide +kernel)
theorem imk_5 : im_5.all (fun c => c.all (fun e => decide (decode prog_2_method_6_code e.1 = .ok e.2))) = true := dq_ok (by decide +kernel)
theorem imk_6 : im_6.all (fun c => c.all (fun e => decide (decode prog_3_method_1_code e.1 = .ok e.2))) = true := dq_ok (by decide +kernel)
theorem imk_7 : im_7.all (fun c => c.all (fun e => decide (decode prog_3_method_2_code e.1 = .ok e.2))) = true := dq_ok (by decide +kernel)
theorem imk_8 : im_8.all (fun c => c.all (fun e => decide (decode prog_3_method_3_code e.1 = .ok e.2))) = true := dq_ok (by decide +kernel)
theorem imk_9 : im_9.all (fun c => c.all (fun e => decide (decode prog_3_method_4_code e.1 = .ok e.2))) = true := dq_ok (by decide +kernel)
theorem imk_10 : im_10.all (fun c => c.all (fun e => decide (decode prog_3_method_5_code e.1 = .ok e.2))) = true := dq_ok (by decide +kernel)
theorem imk_11 : im_11.all (fun c => c.all (fun e => decide (decode prog_3_method_6_code e.1 = .ok e.2))) = true := dq_ok (by decide +kernel)
theorem imk_12 : im_12.all (fun c => c.all (fun e => decide (decode prog_3_method_7_code e.1 = .ok e.2))) = true := dq_ok (by decide +kernel)
theorem imk_13 : im_13.all (fun c => c.all (fun e => decide (decode prog_3_method_8_code e.1 = .ok e.2))) = true := dq_ok (by decide +kernel)
theorem imk_14 : im_14.all (fun c => c.all (fun e => decide (decode prog_3_method_9_code e.1 = .ok e.2))) = true := dq_ok (by decide +kernel)
theorem imk_15 : im_15.all (fun c => c.all (fun e => decide (decode prog_4_method_1_code e.1 = .ok e.2))) = true := dq_ok (by decide +kernel)
theorem imk_16 : im_16.all (fun c => c.all (fun e => decide (decode prog_4_method_2_code e.1 = .ok e.2))) = true := dq_ok (by decide +kernel)
theorem imk_17 : im_17.all (fun c => c.all (fun e => decide (decode prog_4_method_3_code e.1 = .ok e.2))) = true := dq_ok (by decide +kernel)
theorem imk_18 : im_18.all (fun c => c.all (fun e => decide (decode prog_4_method_4_code e.1 = .ok e.2))) = true := dq_ok (by decide +kernel)
theorem imk_19 : im_19.all (fun c => c.all (fun e => decide (decode prog_4_method_5_code e.1 = .ok e.2))) = true := dq_ok (by decide +kernel)
theorem imk_20 : im_20.all (fun c => c.all (fun e => decide (decode prog_4_method_6_code e.1 = .ok e.2))) = true := dq_ok (by decide +kernel)
theorem imk_21 : im_21.all (fun c => c.all (fun e => decide (decode prog_4_method_7_code e.1 = .ok e.2))) = true := dq_ok (by decide +kernel)
theorem imk_22 : im_22.all (fun c => c.all (fun e => decide (decode prog_5_method_1_code e.1 = .ok e.2))) = true := dq_ok (by decide +kernel)
theorem imk_23 : im_23.all (fun c => c.all (fun e => decide (decode prog_5_method_2_code e.1 = .ok e.2))) = true := dq_ok (by decide +kernel)
theorem imk_24 : im_24.all (fun c => c.all (fun e => decide (decode prog_5_method_3_code e.1 = .ok e.2))) = true := dq_ok (by decide +kernel)
theorem imk_25 : im_25.all (fun c => c.all (fun e => decide (decode prog_5_method_4_code e.1 = .ok e.2))) = true := dq_ok (by decide +kernel)
theorem imk_26 : im_26.all (fun c => c.all (fun e => decide (decode prog_5_method_5_code e.1 = .ok e.2))) = true := dq_ok (by decide +kernel)
theorem imk_27 : im_27.all (fun c => c.all (fun e => decide (decode prog_5_method_6_code e.1 = .ok e.2))) = true := dq_ok (by decide +kernel)
theorem imk_28 : im_28.all (fun c => c.all (fun e => decide (decode prog_5_method_7_code e.1 = .ok e.2))) = true := dq_ok (by decide +kernel)
theorem imk_29 : im_29.all (fun c => c.all (fun e => decide (decode prog_5_method_8_code e.1 = .ok e.2))) = true := dq_ok (by decide +kernel)
theorem imk_30 : im_30.all (fun c => c.all (fun e => decide (decode prog_5_method_9_code e.1 = .ok e.2))) = true := dq_ok (by decide +kernel)
theorem imk_31 : im_31.all (fun c => c.all (fun e => decide (decode prog_5_method_10_code e.1 = .ok e.2))) = true := dq_ok (by decide +kernel)
theorem imk_32 : im_32.all (fun c => c.all (fun e => decide (decode prog_5_method_11_code e.1 = .ok e.2))) = true := dq_ok (by decide +kernel)
theorem imk_33 : im_33.all (fun c => c.all (fun e => decide (decode prog_5_method_12_code e.1 = .ok e.2))) = true := dq_ok (by decide +kernel)
theorem imk_34 : im_34.all (fun c => c.all (fun e => decide (decode prog_5_method_13_code e.1 = .ok e.2))) = true := dq_ok (by decide +kernel)
theorem imk_35 : im_35.all (fun c => c.all (fun e => decide (decode prog_5_method_14_code e.1 = .ok e.2))) = true := dq_ok (by decide +kernel)
theorem imk_36 : im_36.all (fun c => c.all (fun e => decide (decode prog_5_method_15_code e.1 = .ok e.2))) = true := dq_ok (by decide +kernel)
theorem imk_37 : im_37.all (fun c => c.all (fun e => decide (decode prog_5_method_16_code e.1 = .ok e.2))) = true := dq_ok (by decide +kernel)
theorem imk_38 : im_38.all (fun c => c.all (fun e => decide (decode prog_5_method_17_code e.1 = .ok e.2))) = true := dq_ok (by decide +kernel)
theorem imk_39 : im_39.all (fun c => c.all (fun e => decide (decode prog_5_method_18_code e.1 = .ok e.2))) = true := dq_ok (by decide +kernel)
theorem imk_40 : im_40.all (fun c => c.all (fun e => decide (decode prog_5_method_19_code e.1 = .ok e.2))) = true := dq_ok (by decide +kernel)
theorem imk_41 : im_41.all (fun c => c.all (fun e => decide (decode prog_5_method_20_code e.1 = .ok e.2))) = true := dq_ok (by decide +kernel)
theorem imk_42 : im_42.all (fun c => c.all (fun e => decide (decode prog_5_method_21_code e.1 = .ok e.2))) = true := dq_ok (by decide +kernel)
theorem imk_43 : im_43.all (fun c => c.all (fun e => decide (decode prog_5_method_22_code e.1 = .ok e.2))) = true := dq_ok (by decide +kernel)
end MG04dec00x0
section MG04dec00x1
theorem imk_44 : im_44.all (fun c => c.all (fun e => decide (decode prog_5_method_23_code e.1 = .ok e.2))) = true := dq_ok (by decide +kernel)
theorem imk_45 : im_45.all (fun c => c.all (fun e => decide (decode prog_6_method_1_code e.1 = .ok e.2))) = true := dq_ok (by decide +kernel)
theorem imk_46 : im_46.all (fun c => c.all (fun e => decide (decode prog_6_method_2_code e.1 = .ok e.2))) = true := dq_ok (by decide +kernel)
theorem imk_47 : im_47.all (fun c => c.all (fun e => decide (decode prog_6_method_3_code e.1 = .ok e.2))) = true := dq_ok (by decide +kernel)
theorem imk_48 : im_48.all (fun c => c.all (fun e => decide (decode prog_6_method_4_code e.1 = .ok e.2))) = true := dq_ok (by decide +kernel)
theorem imk_49 : im_49.all (fun c => c.all (fun e => decide (decode prog_6_method_5_code e.1 = .ok e.2))) = true := dq_ok (by decide +kernel)
theorem imk_50 : im_50.all (fun c => c.all (fun e => decide (decode prog_6_method_6_code e.1 = .ok e.2))) = true := dq_ok (by decide +kernel)
theorem imk_51 : im_51.all (fun c => c.all (fun e => decide (decode prog_6_method_7_code e.1 = .ok e.2))) = true := dq_ok (by decide +kernel)
theorem imk_52 : im_52.all (fun c => c.all (fun e => decide (decode prog_7_method_1_code e.1 = .ok e.2))) = true := dq_ok (by decide +kernel)
theorem imk_53 : im_53.all (fun c => c.all (fun e => decide (decode prog_7_method_2_code e.1 = .ok e.2))) = true := dq_ok (by decide +kernel)
theorem imk_54 : im_54.all (fun c => c.all (fun e => decide (decode prog_7_method_3_code e.1 = .ok e.2))) = true := dq_ok (by decide +kernel)
theorem imk_55 : im_55.all (fun c => c.all (fun e => decide (decode prog_7_method_4_code e.1 = .ok e.2))) = true := dq_ok (by decide +kernel)
theorem imk_56 : im_56.all (fun c => c.all (fun e => decide (decode prog_7_method_5_code e.1 = .ok e.2))) = true := dq_ok (by decide +kernel)
theorem imk_57 : im_57.all (fun c => c.all (fun e => decide (decode prog_8_method_1_code e.1 = .ok e.2))) = true := dq_ok (by decide +kernel)
theorem imk_58 : im_58.all (fun c => c.all (fun e => decide (decode prog_8_method_2_code e.1 = .ok e.2))) = true := dq_ok (by decide +kernel)
theorem imk_59 : im_59.all (fun c => c.all (fun e => decide (decode prog_8_method_3_code e.1 = .ok e.2))) = true := dq_ok (by decide +kernel)
theorem imk_60 : im_60.all (fun c => c.all (fun e => decide (decode prog_8_method_4_code e.1 = .ok e.2))) = true := dq_ok (by decide +kernel)
theorem imk_61 : im_61.all (fun c => c.all (fun e => decide (decode prog_8_method_5_code e.1 = .ok e.2))) = true := dq_ok (by decide +kernel)
theorem imk_62 : im_62.all (fun c => c.all (fun e => decide (decode prog_8_method_6_code e.1 = .ok e.2))) = true := dq_ok (by decide +kernel)
theorem imk_63 : im_63.all (fun c => c.all (fun e => decide (decode prog_8_method_7_code e.1 = .ok e.2))) = true := dq_ok (by decide +kernel)
theorem imk_64 : im_64.all (fun c => c.all (fun e => decide (decode prog_8_method_8_code e.1 = .ok e.2))) = true := dq_ok (by decide +kernel)
theorem imk_65 : im_65.all (fun c => c.all (fun e => decide (decode prog_8_method_9_code e.1 = .ok e.2))) = true := dq_ok (by decide +kernel)
theorem imk_66 : im_66.all (fun c => c.all (fun e => decide (decode prog_8_method_10_code e.1 = .ok e.2))) = true := dq_ok (by decide +kernel)
theorem imk_67 : im_67.all (fun c => c.all (fun e => decide (decode prog_8_method_11_code e.1 = .ok e.2))) = true := dq_ok (by decide +kernel)
theorem imk_68 : im_68.all (fun c => c.all (fun e => decide (decode prog_8_method_12_code e.1 = .ok e.2))) = true := dq_ok (by decide +kernel)
theorem imk_69 : im_69.all (fun c => c.all (fun e => decide (decode prog_8_method_13_code e.1 = .ok e.2))) = true := dq_ok (by decide +kernel)
theorem imk_70 : im_70.all (fun c => c.all (fun e => decide (decode prog_8_method_14_code e.1 = .ok e.2))) = true := dq_ok (by decide +kernel)
theorem imk_71 : im_71.all (fun c => c.all (fun e => decide (decode prog_8_method_15_code e.1 = .ok e.2))) = true := dq_ok (by decide +kernel)
theorem imk_72 : im_72.all (fun c => c.all (fun e => decide (decode prog_9_method_1_code e.1 = .ok e.2))) = true := dq_ok (by decide +kernel)
theorem imk_73 : im_73.all (fun c => c.all (fun e => decide (decode prog_9_method_2_code e.1 = .ok e.2))) = true := dq_ok (by decide +kernel)
theorem imk_74 : im_74.all (fun c => c.all (fun e => decide (decode prog_9_method_3_code e.1 = .ok e.2))) = true := dq_ok (by decide +kernel)
theorem imk_75 : im_75.all (fun c => c.all (fun e => decide (decode prog_9_method_4_code e.1 = .ok e.2))) = true := dq_ok (by decide +kernel)
theorem imk_76 : im_76.all (fun c => c.all (fun e => decide (decode prog_9_method_5_code e.1 = .ok e.2))) = true := dq_ok (by decide +kernel)
theorem imk_77 : im_77.all (fun c => c.all (fun e => decide (decode prog_9_method_6_code e.1 = .ok e.2))) = true := dq_ok (by decide +kernel)
theorem imk_78 : im_78.all (fun c => c.all (fun e => decide (decode prog_10_method_1_code e.1 = .ok e.2))) = true := dq_ok (by decide +kernel)
theorem imk_79 : im_79.all (fun c => c.all (fun e => decide (decode prog_10_method_2_code e.1 = .ok e.2))) = true := dq_ok (by decide +kernel)
theorem imk_80 : im_80.all (fun c => c.all (fun e => decide (decode prog_10_method_3_code e.1 = .ok e.2))) = true := dq_ok (by decide +kernel)
theorem imk_81 : im_81.all (fun c => c.all (fun e => decide (decode prog_10_method_4_code e.1 = .ok e.2))) = true := dq_ok (by decide +kernel)
theorem imk_82 : im_82.all (fun c => c.all (fun e => decide (decode prog_11_method_1_code e.1 = .ok e.2))) = true := dq_ok (by decide +kernel)
theorem imk_83 : im_83.all (fun c => c.all (fun e => decide (decode prog_11_method_2_code e.1 = .ok e.2))) = true := dq_ok (by decide +kernel)
theorem imk_84 : im_84.all (fun c => c.all (fun e => decide (decode prog_11_method_3_code e.1 = .ok e.2))) = true := dq_ok (by decide +kernel)
end MG04dec00x1
section MG04dec00x2
theorem imk_85 : im_85.all (fun c => c.all (fun e => decide (decode prog_1_method_1_code e.1 = .ok e.2))) = true := dq_ok (by decide +kernel)
theorem imk_86 : im_86.all (fun c => c.all (fun e => decide (decode prog_1_method_2_code e.1 = .ok e.2))) = true := dq_ok (by decide +kernel)
theorem imk_87 : im_87.all (fun c => c.all (fun e => decide (decode prog_1_method_3_code e.1 = .ok e.2))) = true := dq_ok (by decide +kernel)
theorem imk_88 : im_88.all (fun c => c.all (fun e => decide (decode prog_1_method_4_code e.1 = .ok e.2))) = true := dq_ok (by decide +kernel)
theorem imk_89 : im_89.all (fun c => c.all (fun e => decide (decode prog_1_method_5_code e.1 = .ok e.2))) = true := dq_ok (by decide +kernel)
theorem imk_90 : im_90.all (fun c => c.all (fun e => decide (decode prog_1_method_6_code e.1 = .ok e.2))) = true := dq_ok (by decide +kernel)
theorem imk_91 : im_91.all (fun c => c.all (fun e => decide (decode prog_1_method_7_code e.1 = .ok e.2))) = true := dq_ok (by decide +kernel)
theorem imk_92 : im_92.all (fun c => c.all (fun e => decide (decode prog_1_method_8_code e.1 = .ok e.2))) = true := dq_ok (by decide +kernel)
theorem imk_93 : im_93.all (fun c => c.all (fun e => decide (decode prog_1_method_9_code e.1 = .ok e.2))) = true := dq_ok (by decide +kernel)
theorem imk_94 : im_94.all (fun c => c.all (fun e => decide (decode prog_1_method_10_code e.1 = .ok e.2))) = true := dq_ok (by decide +kernel)
theorem imk_95 : im_95.all (fun c => c.all (fun e => decide (decode prog_1_method_11_code e.1 = .ok e.2))) = true := dq_ok (by decide +kernel)
theorem imk_96 : im_96.all (fun c => c.all (fun e => decide (decode prog_1_method_12_code e.1 = .ok e.2))) = true := dq_ok (by decide +kernel)
theorem imk_97 : im_97.all (fun c => c.all (fun e => decide (decode prog_1_method_13_code e.1 = .ok e.2))) = true := dq_ok (by decide +kernel)
theorem imk_98 : im_98.all (fun c => c.all (fun e => decide (decode prog_1_method_14_code e.1 = .ok e.2))) = true := dq_ok (by decide +kernel)
theorem imk_99 : im_99.all (fun c => c.all (fun e => decide (decode prog_1_method_15_code e.1 = .ok e.2))) = true := dq_ok (by decide +kernel)
theorem imk_100 : im_100.all (fun c => c.all (fun e => decide (decode prog_1_method_16_code e.1 = .ok e.2))) = true := dq_ok (by decide +kernel)
theorem imk_101 : im_101.all (fun c => c.all (fun e => decide (decode prog_1_method_17_code e.1 = .ok e.2))) = true := dq_ok (by decide +kernel)
theorem imk_102 : im_102.all (fun c => c.all (fun e => decide (decode prog_1_method_18_code e.1 = .ok e.2))) = true := dq_ok (by decide +kernel)
theorem imk_103 : im_103.all (fun c => c.all (fun e => decide (decode prog_1_method_19_code e.1 = .ok e.2))) = true := dq_ok (by decide +kernel)
theorem imk_104 : im_104.all (fun c => c.all (fun e => decide (decode prog_1_method_20_code e.1 = .ok e.2))) = true := dq_ok (by decide +kernel)
theorem imk_105 : im_105.all (fun c => c.all (fun e => decide (decode prog_1_method_21_code e.1 = .ok e.2))) = true := dq_ok (by decide +kernel)
theorem imk_106 : im_106.all (fun c => c.all (fun e => decide (decode prog_1_method_22_code e.1 = .ok e.2))) = true := dq_ok (by decide +kernel)
theorem imk_107 : im_107.all (fun c => c.all (fun e => decide (decode prog_1_method_23_code e.1 = .ok e.2))) = true := dq_ok (by decide +kernel)
theorem imk_108 : im_108.all (fun c => c.all (fun e => decide (decode prog_1_method_24_code e.1 = .ok e.2))) = true := dq_ok (by decide +kernel)
theorem imk_109 : im_109.all (fun c => c.all (fun e => decide (decode prog_1_method_25_code e.1 = .ok e.2))) = true := dq_ok (by decide +kernel)
theorem imk_110 : im_110.all (fun c => c.all (fun e => decide (decode prog_1_method_26_code e.1 = .ok e.2))) = true := dq_ok (by decide +kernel)
theorem imk_111 : im_111.all (fun c => c.all (fun e => decide (decode prog_1_method_27_code e.1 = .ok e.2))) = true := dq_ok (by decide +kernel)
end MG04dec00x2
section MG04dec00x3
theorem imk_112 : im_112.all (fun c => c.all (fun e => decide (decode prog_1_method_28_code e.1 = .ok e.2))) = true := dq_ok (by decide +kernel)
theorem imk_113 : im_113.all (fun c => c.all (fun e => decide (decode prog_1_method_29_code e.1 = .ok e.2))) = true := dq_ok (by decide +kernel)
theorem imk_114 : im_114.all (fun c => c.all (fun e => decide (decode prog_1_method_30_code e.1 = .ok e.2))) = true := dq_ok (by decide +kernel)
theorem imk_115 : im_115.all (fun c => c.all (fun e => decide (decode prog_1_method_31_code e.1 = .ok e.2))) = true := dq_ok (by decide +kernel)
theorem imk_116 : im_116.all (fun c => c.all (fun e => decide (decode prog_1_method_32_code e.1 = .ok e.2))) = true := dq_ok (by decide +kernel)
theorem imk_117 : im_117.all (fun c => c.all (fun e => decide (decode prog_1_method_33_code e.1 = .ok e.2))) = true := dq_ok (by decide +kernel)
theorem imk_118 : im_118.all (fun c => c.all (fun e => decide (decode prog_1_method_34_code e.1 = .ok e.2))) = true := dq_ok (by decide +kernel)
theorem imk_119 : im_119.all (fun c => c.all (fun e => decide (decode prog_1_method_35_code e.1 = .ok e.2))) = true := dq_ok (by decide +kernel)
theorem imk_120 : im_120.all (fun c => c.all (fun e => decide (decode prog_1_method_36_code e.1 = .ok e.2))) = true := dq_ok (by decide +kernel)
theorem imk_121 : im_121.all (fun c => c.all (fun e => decide (decode prog_1_method_37_code e.1 = .ok e.2))) = true := dq_ok (by decide +kernel)
theorem imk_122 : im_122.all (fun c => c.all (fun e => decide (decode prog_1_method_38_code e.1 = .ok e.2))) = true := dq_ok (by decide +kernel)
theorem imk_123 : im_123.all (fun c => c.all (fun e => decide (decode prog_1_method_39_code e.1 = .ok e.2))) = true := dq_ok (by decide +kernel)
theorem imk_124 : im_124.all (fun c => c.all (fun e => decide (decode prog_1_method_40_code e.1 = .ok e.2))) = true := dq_ok (by decide +kernel)
theorem imk_125 : im_125.all (fun c => c.all (fun e => decide (decode prog_1_method_41_code e.1 = .ok e.2))) = true := dq_ok (by decide +kernel)
theorem imk_126 : im_126.all (fun c => c.all (fun e => decide (decode prog_1_method_42_code e.1 = .ok e.2))) = true := dq_ok (by decide +kernel)
theorem imk_127 : im_127.all (fun c => c.all (fun e => decide (decode prog_1_method_43_code e.1 = .ok e.2))) = true := dq_ok (by decide +kernel)
theorem imk_128 : im_128.all (fun c => c.all (fun e => decide (decode prog_1_method_44_code e.1 = .ok e.2))) = true := dq_ok (by decide +kernel)
theorem imk_129 : im_129.all (fun c => c.all (fun e => decide (decode prog_1_method_45_code e.1 = .ok e.2))) = true := dq_ok (by decide +kernel)
theorem imk_130 : im_130.all (fun c => c.all (fun e => decide (decode prog_1_method_46_code e.1 = .ok e.2))) = true := dq_ok (by decide +kernel)
theorem imk_131 : im_131.all (fun c => c.all (fun e => decide (decode prog_1_method_47_code e.1 = .ok e.2))) = true := dq_ok (by decide +kernel)
theorem imk_132 : im_132.all (fun c => c.all (fun e => decide (decode prog_1_method_48_code e.1 = .ok e.2))) = true := dq_ok (by decide +kernel)
theorem imk_133 : im_133.all (fun c => c.all (fun e => decide (decode prog_1_method_49_code e.1 = .ok e.2))) = true := dq_ok (by decide +kernel)
theorem imk_134 : im_134.all (fun c => c.all (fun e => decide (decode prog_1_method_50_code e.1 = .ok e.2))) = true := dq_ok (by decide +kernel)
theorem imk_135 : im_135.all (fun c => c.all (fun e => decide (decode prog_1_method_51_code e.1 = .ok e.2))) = true := dq_ok (by decide +kernel)
theorem imk_136 : im_136.all (fun c => c.all (fun e => decide (decode prog_1_method_52_code e.1 = .ok e.2))) = true := dq_ok (by decide +kernel)
theorem imk_137 : im_137.all (fun c => c.all (fun e => decide (decode prog_1_method_53_code e.1 = .ok e.2))) = true := dq_ok (by decide +kernel)
theorem imk_138 : im_138.all (fun c => c.all (fun e => decide (decode prog_1_method_54_code e.1 = .ok e.2))) = true := dq_ok (by decide +kernel)
theorem imk_139 : im_139.all (fun c => c.all (fun e => decide (decode prog_1_method_55_code e.1 = .ok e.2))) = true := dq_ok (by decide +kernel)
theorem imk_140 : im_140.all (fun c => c.all (fun e => decide (decode prog_1_method_56_code e.1 = .ok e.2))) = true := dq_ok (by decide +kernel)
theorem imk_141 : im_141.all (fun c => c.all (fun e => decide (decode prog_1_method_57_code e.1 = .ok e.2))) = true := dq_ok (by decide +kernel)
theorem imk_142 : im_142.all (fun c => c.all (fun e => decide (decode prog_1_method_58_code e.1 = .ok e.2))) = true := dq_ok (by decide +kernel)
end MG04dec00x3
section MG04dec00x4
theorem imk_143 : im_143.all (fun c => c.all (fun e => decide (decode prog_1_method_59_code e.1 = .ok e.2))) = true := dq_ok (by decide +kernel)
theorem imk_144 : im_144.all (fun c => c.all (fun e => decide (decode prog_1_method_60_code e.1 = .ok e.2))) = true := dq_ok (by decide +kernel)
theorem imk_145 : im_145.all (fun c => c.all (fun e => decide (decode prog_1_method_61_code e.1 = .ok e.2))) = true := dq_ok (by decide +kernel)
theorem imk_146 : im_146.all (fun c => c.all (fun e => decide (decode prog_1_method_62_code e.1 = .ok e.2))) = true := dq_ok (by decide +kernel)
theorem imk_147 : im_147.all (fun c => c.all (fun e => decide (decode prog_1_method_63_code e.1 = .ok e.2))) = true := dq_ok (by decide +kernel)
theorem imk_148 : im_148.all (fun c => c.all (fun e => decide (decode prog_1_method_64_code e.1 = .ok e.2))) = true := dq_ok (by decide +kernel)
theorem imk_149 : im_149.all (fun c => c.all (fun e => decide (decode prog_1_method_65_code e.1 = .ok e.2))) = true := dq_ok (by decide +kernel)
theorem imk_150 : im_150.all (fun c => c.all (fun e => decide (decode prog_1_method_66_code e.1 = .ok e.2))) = true := dq_ok (by decide +kernel)
theorem imk_151 : im_151.all (fun c => c.all (fun e => decide (decode prog_1_method_67_code e.1 = .ok e.2))) = true := dq_ok (by decide +kernel)
theorem imk_152 : im_152.all (fun c => c.all (fun e => decide (decode prog_1_method_68_code e.1 = .ok e.2))) = true := dq_ok (by decide +kernel)
theorem imk_153 : im_153.all (fun c => c.all (fun e => decide (decode prog_1_method_69_code e.1 = .ok e.2))) = true := dq_ok (by decide +kernel)
theorem imk_154 : im_154.all (fun c => c.all (fun e => decide (decode prog_1_method_70_code e.1 = .ok e.2))) = true := dq_ok (by decide +kernel)
theorem imk_155 : im_155.all (fun c => c.all (fun e => decide (decode prog_1_method_71_code e.1 = .ok e.2))) = true := dq_ok (by decide +kernel)
theorem imk_156 : im_156.all (fun c => c.all (fun e => decide (decode prog_1_method_72_code e.1 = .ok e.2))) = true := dq_ok (by decide +kernel)
theorem imk_157 : im_157.all (fun c => c.all (fun e => decide (decode prog_1_method_73_code e.1 = .ok e.2))) = true := dq_ok (by decide +kernel)
theorem imk_158 : im_158.all (fun c => c.all (fun e => decide (decode prog_1_method_74_code e.1 = .ok e.2))) = true := dq_ok (by decide +kernel)
theorem imk_159 : im_159.all (fun c => c.all (fun e => decide (decode prog_1_method_75_code e.1 = .ok e.2))) = true := dq_ok (by decide +kernel)
theorem imk_160 : im_160.all (fun c => c.all (fun e => decide (decode prog_1_method_76_code e.1 = .ok e.2))) = true := dq_ok (by decide +kernel)
theorem imk_161 : im_161.all (fun c => c.all (fun e => decide (decode prog_13_method_1_code e.1 = .ok e.2))) = true := dq_ok (by decide +kernel)
theorem imk_162 : im_162.all (fun c => c.all (fun e => decide (decode prog_13_method_3_code e.1 = .ok e.2))) = true := dq_ok (by decide +kernel)
theorem imk_163 : im_163.all (fun c => c.all (fun e => decide (decode prog_13_method_4_code e.1 = .ok e.2))) = true := dq_ok (by decide +kernel)
theorem imk_164 : im_164.all (fun c => c.all (fun e => decide (decode prog_13_method_5_code e.1 = .ok e.2))) = true := dq_ok (by decide +kernel)
theorem imk_165 : im_165.all (fun c => c.all (fun e => decide (decode prog_13_method_6_code e.1 = .ok e.2))) = true := dq_ok (by decide +kernel)
theorem imk_166 : im_166.all (fun c => c.all (fun e => decide (decode prog_13_method_7_code e.1 = .ok e.2))) = true := dq_ok (by decide +kernel)
theorem imk_167 : im_167.all (fun c => c.all (fun e => decide (decode prog_13_method_8_code e.1 = .ok e.2))) = true := dq_ok (by decide +kernel)
theorem imk_168 : im_168.all (fun c => c.all (fun e => decide (decode prog_13_method_9_code e.1 = .ok e.2))) = true := dq_ok (by decide +kernel)
theorem imk_169 : im_169.all (fun c => c.all (fun e => decide (decode prog_13_method_10_code e.1 = .ok e.2))) = true := dq_ok (by decide +kernel)
theorem imk_170 : im_170.all (fun c => c.all (fun e => decide (decode prog_13_method_11_code e.1 = .ok e.2))) = true := dq_ok (by decide +kernel)
theorem imk_171 : im_171.all (fun c => c.all (fun e => decide (decode prog_13_method_12_code e.1 = .ok e.2))) = true := dq_ok (by decide +kernel)
theorem imk_172 : im_172.all (fun c => c.all (fun e => decide (decode prog_13_method_13_code e.1 = .ok e.2))) = true := dq_ok (by decide +kernel)
theorem imk_173 : im_173.all (fun c => c.all (fun e => decide (decode prog_13_method_14_code e.1 = .ok e.2))) = true := dq_ok (by decide +kernel)
theorem imk_174 : im_174.all (fun c => c.all (fun e => decide (decode prog_13_method_15_code e.1 = .ok e.2))) = true := dq_ok (by decide +kernel)
theorem imk_175 : im_175.all (fun c => c.all (fun e => decide (decode prog_13_method_16_code e.1 = .ok e.2))) = true := dq_ok (by decide +kernel)
theorem imk_176 : im_176.all (fun c => c.all (fun e => decide (decode prog_13_method_17_code e.1 = .ok e.2))) = true := dq_ok (by decide +kernel)
theorem imk_177 : im_177.all (fun c => c.all (fun e => decide (decode prog_13_method_18_code e.1 = .ok e.2))) = true := dq_ok (by decide +kernel)
theorem imk_178 : im_178.all (fun c => c.all (fun e => decide (decode prog_13_method_19_code e.1 = .ok e.2))) = true := dq_ok (by decide +kernel)
theorem imk_179 : im_179.all (fun c => c.all (fun e => decide (decode prog_13_method_20_code e.1 = .ok e.2))) = true := dq_ok (by decide +kernel)
theorem imk_180 : im_180.all (fun c => c.all (fun e => decide (decode prog_13_method_21_code e.1 = .ok e.2))) = true := dq_ok (by decide +kernel)
theorem imk_181 : im_181.all (fun c => c.all (fun e => decide (decode prog_13_method_22_code e.1 = .ok e.2))) = true := dq_ok (by decide +kernel)
theorem imk_182 : im_182.all (fun c => c.all (fun e => decide (decode prog_13_method_23_code e.1 = .ok e.2))) = true := dq_ok (by decide +kernel)
theorem imk_183 : im_183.all (fun c => c.all (fun e => decide (decode prog_13_method_24_code e.1 = .ok e.2))) = true := dq_ok (by decide +kernel)
theorem imk_184 : im_184.all (fun c => c.all (fun e => decide (decode prog_13_method_25_code e.1 = .ok e.2))) = true := dq_ok (by decide +kernel)
theorem imk_185 : im_185.all (fun c => c.all (fun e => decide (decode prog_13_method_26_code e.1 = .ok e.2))) = true := dq_ok (by decide +kernel)
theorem imk_186 : im_186.all (fun c => c.all (fun e => decide (decode prog_13_method_27_code e.1 = .ok e.2))) = true := dq_ok (by decide +kernel)
theorem imk_187 : im_187.all (fun c => c.all (fun e => decide (decode prog_13_method_28_code e.1 = .ok e.2))) = true := dq_ok (by decide +kernel)
theorem imk_188 : im_188.all (fun c => c.all (fun e => decide (decode prog_13_method_29_code e.1 = .ok e.2))) = true := dq_ok (by decide +kernel)
theorem imk_189 : im_189.all (fun c => c.all (fun e => decide (decode prog_13_method_30_code e.1 = .ok e.2))) = true := dq_ok (by decide +kernel)
end MG04dec00x4
section MG04dec00x5
theorem imk_190 : im_190.all (fun c => c.all (fun e => decide (decode prog_13_method_31_code e.1 = .ok e.2))) = true := dq_ok (by decide +kernel)
theorem imk_191 : im_191.all (fun c => c.all (fun e => decide (decode prog_13_method_32_code e.1 = .ok e.2))) = true := dq_ok (by decide +kernel)
theorem imk_192 : im_192.all (fun c => c.all (fun e => decide (decode prog_13_method_33_code e.1 = .ok e.2))) = true := dq_ok (by decide +kernel)
theorem imk_193 : im_193.all (fun c => c.all (fun e => decide (decode prog_13_method_34_code e.1 = .ok e.2))) = true := dq_ok (by decide +kernel)
theorem imk_194 : im_194.all (fun c => c.all (fun e => decide (decode prog_13_method_35_code e.1 = .ok e.2))) = true := dq_ok (by decide +kernel)
theorem imk_195 : im_195.all (fun c => c.all (fun e => decide (decode prog_13_method_36_code e.1 = .ok e.2))) = true := dq_ok (by decide +kernel)
theorem imk_196 : im_196.all (fun c => c.all (fun e => decide (decode prog_13_method_37_code e.1 = .ok e.2))) = true := dq_ok (by decide +kernel)
theorem imk_197 : im_197.all (fun c => c.all (fun e => decide (decode prog_13_method_38_code e.1 = .ok e.2))) = true := dq_ok (by decide +kernel)
theorem imk_198 : im_198.all (fun c => c.all (fun e => decide (decode prog_13_method_39_code e.1 = .ok e.2))) = true := dq_ok (by decide +kernel)
theorem imk_199 : im_199.all (fun c => c.all (fun e => decide (decode prog_13_method_40_code e.1 = .ok e.2))) = true := dq_ok (by decide +kernel)
theorem imk_200 : im_200.all (fun c => c.all (fun e => decide (decode prog_13_method_41_code e.1 = .ok e.2))) = true := dq_ok (by decide +kernel)
theorem imk_201 : im_201.all (fun c => c.all (fun e => decide (decode prog_13_method_42_code e.1 = .ok e.2))) = true := dq_ok (by decide +kernel)
theorem imk_202 : im_202.all (fun c => c.all (fun e => decide (decode prog_13_method_43_code e.1 = .ok e.2))) = true := dq_ok (by decide +kernel)
theorem imk_203 : im_203.all (fun c => c.all (fun e => decide (decode prog_13_method_44_code e.1 = .ok e.2))) = true := dq_ok (by decide +kernel)
theorem imk_204 : im_204.all (fun c => c.all (fun e => decide (decode prog_13_method_45_code e.1 = .ok e.2))) = true := dq_ok (by decide +kernel)
theorem imk_205 : im_205.all (fun c => c.all (fun e => decide (decode prog_13_method_46_code e.1 = .ok e.2))) = true := dq_ok (by decide +kernel)
theorem imk_206 : im_206.all (fun c => c.all (fun e => decide (decode prog_13_method_47_code e.1 = .ok e.2))) = true := dq_ok (by decide +kernel)
theorem imk_207 : im_207.all (fun c => c.all (fun e => decide (decode prog_13_method_48_code e.1 = .ok e.2))) = true := dq_ok (by decide +kernel)
theorem imk_208 : im_208.all (fun c => c.all (fun e => decide (decode prog_13_method_49_code e.1 = .ok e.2))) = true := dq_ok (by decide +kernel)
theorem imk_209 : im_209.all (fun c => c.all (fun e => decide (decode prog_13_method_50_code e.1 = .ok e.2))) = true := dq_ok (by decide +kernel)
theorem imk_210 : im_210.all (fun c => c.all (fun e => decide (decode prog_13_method_51_code e.1 = .ok e.2))) = true := dq_ok (by decide +kernel)
theorem imk_211 : im_211.all (fun c => c.all (fun e => decide (decode prog_13_method_52_code e.1 = .ok e.2))) = true := dq_ok (by decide +kernel)
theorem imk_212 : im_212.all (fun c => c.all (fun e => decide (decode prog_13_method_53_code e.1 = .ok e.2))) = true := dq_ok (by decide +kernel)
theorem imk_213 : im_213.all (fun c => c.all (fun e => decide (decode prog_13_method_54_code e.1 = .ok e.2))) = true := dq_ok (by decide +kernel)
theorem imk_214 : im_214.all (fun c => c.all (fun e => decide (decode prog_13_method_55_code e.1 = .ok e.2))) = true := dq_ok (by decide +kernel)
theorem imk_215 : im_215.all (fun c => c.all (fun e => decide (decode prog_13_method_56_code e.1 = .ok e.2))) = true := dq_ok (by decide +kernel)
end MG04dec00x5
section MG04dec00x6
theorem imk_216 : im_216.all (fun c => c.all (fun e => decide (decode prog_13_method_57_code e.1 = .ok e.2))) = true := dq_ok (by decide +kernel)
theorem imk_217 : im_217.all (fun c => c.all (fun e => decide (decode prog_13_method_58_code e.1 = .ok e.2))) = true := dq_ok (by decide +kernel)
theorem imk_218 : im_218.all (fun c => c.all (fun e => decide (decode prog_13_method_59_code e.1 = .ok e.2))) = true := dq_ok (by decide +kernel)
theorem imk_219 : im_219.all (fun c => c.all (fun e => decide (decode prog_13_method_60_code e.1 = .ok e.2))) = true := dq_ok (by decide +kernel)
theorem imk_220 : im_220.all (fun c => c.all (fun e => decide (decode prog_13_method_61_code e.1 = .ok e.2))) = true := dq_ok (by decide +kernel)
theorem imk_221 : im_221.all (fun c => c.all (fun e => decide (decode prog_13_method_62_code e.1 = .ok e.2))) = true := dq_ok (by decide +kernel)
theorem imk_222 : im_222.all (fun c => c.all (fun e => decide (decode prog_13_method_63_code e.1 = .ok e.2))) = true := dq_ok (by decide +kernel)
theorem imk_223 : im_223.all (fun c => c.all (fun e => decide (decode prog_13_method_64_code e.1 = .ok e.2))) = true := dq_ok (by decide +kernel)
theorem imk_224 : im_224.all (fun c => c.all (fun e => decide (decode prog_13_method_65_code e.1 = .ok e.2))) = true := dq_ok (by decide +kernel)
theorem imk_225 : im_225.all (fun c => c.all (fun e => decide (decode prog_13_method_66_code e.1 = .ok e.2))) = true := dq_ok (by decide +kernel)
theorem imk_226 : im_226.all (fun c => c.all (fun e => decide (decode prog_13_method_67_code e.1 = .ok e.2))) = true := dq_ok (by decide +kernel)
theorem imk_227 : im_227.all (fun c => c.all (fun e => decide (decode prog_13_method_68_code e.1 = .ok e.2))) = true := dq_ok (by decide +kernel)
theorem imk_228 : im_228.all (fun c => c.all (fun e => decide (decode prog_13_method_69_code e.1 = .ok e.2))) = true := dq_ok (by decide +kernel)
theorem imk_229 : im_229.all (fun c => c.all (fun e => decide (decode prog_13_method_70_code e.1 = .ok e.2))) = true := dq_ok (by decide +kernel)
theorem imk_230 : im_230.all (fun c => c.all (fun e => decide (decode prog_13_method_71_code e.1 = .ok e.2))) = true := dq_ok (by decide +kernel)
theorem imk_231 : im_231.all (fun c => c.all (fun e => decide (decode prog_13_method_72_code e.1 = .ok e.2))) = true := dq_ok (by decide +kernel)
theorem imk_232 : im_232.all (fun c => c.all (fun e => decide (decode prog_13_method_73_code e.1 = .ok e.2))) = true := dq_ok (by decide +kernel)
theorem imk_233 : im_233.all (fun c => c.all (fun e => decide (decode prog_13_method_74_code e.1 = .ok e.2))) = true := dq_ok (by decide +kernel)
theorem imk_234 : im_234.all (fun c => c.all (fun e => decide (decode prog_13_method_75_code e.1 = .ok e.2))) = true := dq_ok (by decide +kernel)
theorem imk_235 : im_235.all (fun c => c.all (fun e => decide (decode prog_13_method_76_code e.1 = .ok e.2))) = true := dq_ok (by decide +kernel)
theorem imk_236 : im_236.all (fun c => c.all (fun e => decide (decode prog_13_method_77_code e.1 = .ok e.2))) = true := dq_ok (by decide +kernel)
end MG04dec00x6
section MG04dec00x7
theorem imk_237 : im_237.all (fun c => c.all (fun e => decide (decode prog_13_method_78_code e.1 = .ok e.2))) = true := dq_ok (by decide +kernel)
theorem imk_238 : im_238.all (fun c => c.all (fun e => decide (decode prog_13_method_79_code e.1 = .ok e.2))) = true := dq_ok (by decide +kernel)
theorem imk_239 : im_239.all (fun c => c.all (fun e => decide (decode prog_13_method_80_code e.1 = .ok e.2))) = true := dq_ok (by decide +kernel)
theorem imk_240 : im_240.all (fun c => c.all (fun e => decide (decode prog_13_method_81_code e.1 = .ok e.2))) = true := dq_ok (by decide +kernel)
theorem imk_241 : im_241.all (fun c => c.all (fun e => decide (decode prog_13_method_82_code e.1 = .ok e.2))) = true := dq_ok (by decide +kernel)
theorem imk_242 : im_242.all (fun c => c.all (fun e => decide (decode prog_13_method_83_code e.1 = .ok e.2))) = true := dq_ok (by decide +kernel)
theorem imk_243 : im_243.all (fun c => c.all (fun e => decide (decode prog_13_method_84_code e.1 = .ok e.2))) = true := dq_ok (by decide +kernel)
theorem imk_244 : im_244.all (fun c => c.all (fun e => decide (decode prog_13_method_85_code e.1 = .ok e.2))) = true := dq_ok (by decide +kernel)
theorem imk_245 : im_245.all (fun c => c.all (fun e => decide (decode prog_13_method_86_code e.1 = .ok e.2))) = true := dq_ok (by decide +kernel)
theorem imk_246 : im_246.all (fun c => c.all (fun e => decide (decode prog_13_method_87_code e.1 = .ok e.2))) = true := dq_ok (by decide +kernel)
theorem imk_247 : im_247.all (fun c => c.all (fun e => decide (decode prog_13_method_88_code e.1 = .ok e.2))) = true := dq_ok (by decide +kernel)
theorem imk_248 : im_248.all (fun c => c.all (fun e => decide (decode prog_13_method_89_code e.1 = .ok e.2))) = true := dq_ok (by decide +kernel)
theorem imk_249 : im_249.all (fun c => c.all (fun e => decide (decode prog_13_method_90_code e.1 = .ok e.2))) = true := dq_ok (by decide +kernel)
theorem imk_250 : im_250.all (fun c => c.all (fun e => decide (decode prog_13_method_91_code e.1 = .ok e.2))) = true := dq_ok (by decide +kernel)
theorem imk_251 : im_251.all (fun c => c.all (fun e => decide (decode prog_13_method_92_code e.1 = .ok e.2))) = true := dq_ok (by decide +kernel)
theorem imk_252 : im_252.all (fun c => c.all (fun e => decide (decode prog_13_method_93_code e.1 = .ok e.2))) = true := dq_ok (by decide +kernel)
theorem imk_253 : im_253.all (fun c => c.all (fun e => decide (decode prog_13_method_94_code e.1 = .ok e.2))) = true := dq_ok (by decide +kernel)
theorem imk_254 : im_254.all (fun c => c.all (fun e => decide (decode prog_13_method_95_code e.1 = .ok e.2))) = true := dq_ok (by decide +kernel)
theorem imk_255 : im_255.all (fun c => c.all (fun e => decide (decode prog_13_method_96_code e.1 = .ok e.2))) = true := dq_ok (by decide +kernel)
end MG04dec00x7
section MG04dec00x8
theorem imk_256 : im_256.all (fun c => c.all (fun e => decide (decode prog_13_method_97_code e.1 = .ok e.2))) = true := dq_ok (by decide +kernel)
theorem imk_257 : im_257.all (fun c => c.all (fun e => decide (decode prog_13_method_98_code e.1 = .ok e.2))) = true := dq_ok (by decide +kernel)
theorem imk_258 : im_258.all (fun c => c.all (fun e => decide (decode prog_13_method_99_code e.1 = .ok e.2))) = true := dq_ok (by decide +kernel)
theorem imk_259 : im_259.all (fun c => c.all (fun e => decide (decode prog_13_method_100_code e.1 = .ok e.2))) = true := dq_ok (by decide +kernel)
theorem imk_260 : im_260.all (fun c => c.all (fun e => decide (decode prog_13_method_101_code e.1 = .ok e.2))) = true := dq_ok (by decide +kernel)
theorem imk_261 : im_261.all (fun c => c.all (fun e => decide (decode prog_13_method_102_code e.1 = .ok e.2))) = true := dq_ok (by decide +kernel)
theorem imk_262 : im_262.all (fun c => c.all (fun e => decide (decode prog_13_method_103_code e.1 = .ok e.2))) = true := dq_ok (by decide +kernel)
theorem imk_263 : im_263.all (fun c => c.all (fun e => decide (decode prog_13_method_104_code e.1 = .ok e.2))) = true := dq_ok (by decide +kernel)
theorem imk_264 : im_264.all (fun c => c.all (fun e => decide (decode prog_13_method_105_code e.1 = .ok e.2))) = true := dq_ok (by decide +kernel)
theorem imk_265 : im_265.all (fun c => c.all (fun e => decide (decode prog_13_method_106_code e.1 = .ok e.2))) = true := dq_ok (by decide +kernel)
theorem imk_266 : im_266.all (fun c => c.all (fun e => decide (decode prog_13_method_107_code e.1 = .ok e.2))) = true := dq_ok (by decide +kernel)
theorem imk_267 : im_267.all (fun c => c.all (fun e => decide (decode prog_13_method_108_code e.1 = .ok e.2))) = true := dq_ok (by decide +kernel)
theorem imk_268 : im_268.all (fun c => c.all (fun e => decide (decode prog_13_method_109_code e.1 = .ok e.2))) = true := dq_ok (by decide +kernel)
theorem imk_269 : im_269.all (fun c => c.all (fun e => decide (decode prog_18_method_48_code e.1 = .ok e.2))) = true := dq_ok (by decide +kernel)
theorem imk_270 : im_270.all (fun c => c.all (fun e => decide (decode prog_18_method_49_code e.1 = .ok e.2))) = true := dq_ok (by decide +kernel)
end MG04dec00x8
end MH00listsx6
section MH00listsx7
def imL_g0 : List (List (Nat × Instr × Nat)) := [[(0, .new 8, 3), (3, .dup, 1), (4, .invokespecial 26, 3), (7, .astore_n 1, 1), (8, .new 27, 3), (11, .dup, 1), (12, .invokespecial 29, 3), (15, .astore_n 2, 1)], [(16, .iconst 1, 1), (17, .newarray .long, 2), (19, .astore_n 3, 1), (20, .iconst 0, 1), (21, .istore 4, 2), (23, .iload 4, 2), (25, .aload_n 0, 1), (26, .arraylength, 1), (27, .iconst 5, 1), (28, .isub, 1), (29, .if_icmp .gt 1420, 3)], [(32, .aload_n 0, 1), (33, .iload 4, 2), (35, .iaload, 1), (36, .bipush 63, 2), (38, .iand, 1), (39, .tableswitch 1404 0 42 #[185, 210, 235, 248, 261, 274, 314, 366, 406, 455, 516, 553, 578, 627, 664, 677, 690, 727, 752, 789, 826, 851, 864, 901, 962, 1011, 1036, 1073, 1098, 1111, 1124, 1137, 1150, 1187, 1200, 1213, 1226, 1239, 1264, 1301, 1326, 1351, 1376], 185)], [], [], [], [], [], [], [], [], [], [], [], [(224, .aload_n 1, 1), (225, .aload_n 0, 1), (226, .iload 4, 2), (228, .iconst 1, 1), (229, .iadd, 1), (230, .iaload, 1), (231, .invokevirtual 30, 3), (234, .pop, 1), (235, .aload_n 2, 1), (236, .aload_n 0, 1), (237, .iload 4, 2), (239, .iconst 1, 1)], [(240, .iadd, 1), (241, .iaload, 1), (242, .invokevirtual 34, 3), (245, .pop, 1), (246, .goto 1197, 3), (249, .aload_n 1, 1), (250, .aload_n 0, 1), (251, .iload 4, 2), (253, .iconst 1, 1), (254, .iadd, 1), (255, .iaload, 1)]]
theorem imkL_g0 : imL_g0.all (fun c => c.all (fun e => decide (decode code e.1 = .ok e.2))) = true := dq_ok (by decide +kernel)
def imL_g1 : List (List (Nat × Instr × Nat)) := [[(256, .invokevirtual 35, 3), (259, .aload_n 2, 1), (260, .aload_n 0, 1), (261, .iload 4, 2), (263, .iconst 1, 1), (264, .iadd, 1), (265, .iaload, 1), (266, .invokevirtual 39, 3), (269, .if_icmp .eq 1174, 3)], [(272, .iconst 0, 1), (273, .ireturn, 1), (274, .aload_n 1, 1), (275, .invokevirtual 40, 3), (278, .pop, 1), (279, .aload_n 2, 1), (280, .invokevirtual 44, 3), (283, .pop, 1), (284, .goto 1159, 3), (287, .aload_n 1, 1)], [(288, .invokevirtual 45, 3), (291, .pop, 1), (292, .aload_n 2, 1), (293, .invokevirtual 48, 3), (296, .pop, 1), (297, .goto 1146, 3), (300, .aload_n 1, 1), (301, .invokevirtual 49, 3)], [(304, .pop, 1), (305, .aload_n 2, 1), (306, .invokevirtual 52, 3), (309, .pop, 1), (310, .goto 1133, 3), (313, .aload_n 1, 1), (314, .aload_n 0, 1), (315, .iload 4, 2), (317, .iconst 1, 1), (318, .iadd, 1), (319, .iaload, 1)], [(320, .aload_n 0, 1), (321, .iload 4, 2), (323, .iconst 2, 1), (324, .iadd, 1), (325, .iaload, 1), (326, .aload_n 3, 1), (327, .invokestatic 53, 3), (330, .istore 5, 2), (332, .aload_n 2, 1), (333, .aload_n 0, 1), (334, .iload 4, 2)], [(336, .iconst 1, 1), (337, .iadd, 1), (338, .iaload, 1), (339, .aload_n 0, 1), (340, .iload 4, 2), (342, .iconst 2, 1), (343, .iadd, 1), (344, .iaload, 1), (345, .invokevirtual 58, 3), (348, .istore 6, 2), (350, .goto 1093, 3)], [(353, .aload_n 1, 1), (354, .aload_n 0, 1), (355, .iload 4, 2), (357, .iconst 1, 1), (358, .iadd, 1), (359, .iaload, 1), (360, .aload_n 0, 1), (361, .iload 4, 2), (363, .iconst 2, 1), (364, .iadd, 1), (365, .iaload, 1), (366, .aload_n 0, 1), (367, .iload 4, 2)], [(369, .iconst 3, 1), (370, .iadd, 1), (371, .iaload, 1), (372, .aload_n 3, 1), (373, .invokestatic 59, 3), (376, .istore 5, 2), (378, .aload_n 2, 1), (379, .aload_n 0, 1), (380, .iload 4, 2), (382, .iconst 1, 1), (383, .iadd, 1)], [(384, .iaload, 1), (385, .aload_n 0, 1), (386, .iload 4, 2), (388, .iconst 2, 1), (389, .iadd, 1), (390, .iaload, 1), (391, .aload_n 0, 1), (392, .iload 4, 2), (394, .iconst 3, 1), (395, .iadd, 1), (396, .iaload, 1), (397, .invokevirtual 62, 3)], [(400, .istore 6, 2), (402, .goto 1041, 3), (405, .aload_n 1, 1), (406, .aload_n 0, 1), (407, .iload 4, 2), (409, .iconst 1, 1), (410, .iadd, 1), (411, .iaload, 1), (412, .aload_n 0, 1), (413, .iload 4, 2), (415, .iconst 2, 1)], [(416, .iadd, 1), (417, .iaload, 1), (418, .aload_n 3, 1), (419, .invokestatic 63, 3), (422, .istore 5, 2), (424, .aload_n 2, 1), (425, .aload_n 0, 1), (426, .iload 4, 2), (428, .iconst 1, 1), (429, .iadd, 1), (430, .iaload, 1), (431, .aload_n 0, 1)], [(432, .iload 4, 2), (434, .iconst 2, 1), (435, .iadd, 1), (436, .iaload, 1), (437, .invokevirtual 65, 3), (440, .istore 6, 2), (442, .goto 1001, 3), (445, .aload_n 1, 1), (446, .aload_n 0, 1), (447, .iload 4, 2)], [(449, .iconst 1, 1), (450, .iadd, 1), (451, .iaload, 1), (452, .aload_n 0, 1), (453, .iload 4, 2), (455, .iconst 2, 1), (456, .iadd, 1), (457, .iaload, 1), (458, .aload_n 0, 1), (459, .iload 4, 2), (461, .iconst 3, 1), (462, .iadd, 1), (463, .iaload, 1)], [(464, .invokevirtual 66, 3), (467, .pop, 1), (468, .aload_n 2, 1), (469, .aload_n 0, 1), (470, .iload 4, 2), (472, .iconst 1, 1), (473, .iadd, 1), (474, .iaload, 1), (475, .aload_n 0, 1), (476, .iload 4, 2), (478, .iconst 2, 1), (479, .iadd, 1)], [(480, .iaload, 1), (481, .aload_n 0, 1), (482, .iload 4, 2), (484, .iconst 3, 1), (485, .iadd, 1), (486, .iaload, 1), (487, .invokevirtual 69, 3), (490, .pop, 1), (491, .goto 952, 3), (494, .aload_n 1, 1), (495, .aload_n 0, 1)], [(496, .iload 4, 2), (498, .iconst 1, 1), (499, .iadd, 1), (500, .iaload, 1), (501, .aload_n 0, 1), (502, .iload 4, 2), (504, .iconst 2, 1), (505, .iadd, 1), (506, .iaload, 1), (507, .aload_n 0, 1), (508, .iload 4, 2), (510, .iconst 3, 1), (511, .iadd, 1)]]
theorem imkL_g1 : imL_g1.all (fun c => c.all (fun e => decide (decode code e.1 = .ok e.2))) = true := dq_ok (by decide +kernel)
def imL_g2 : List (List (Nat × Instr × Nat)) := [[(512, .iaload, 1), (513, .aload_n 0, 1), (514, .iload 4, 2), (516, .iconst 4, 1), (517, .iadd, 1), (518, .iaload, 1), (519, .invokevirtual 70, 3), (522, .pop, 1), (523, .aload_n 2, 1), (524, .aload_n 0, 1), (525, .iload 4, 2), (527, .iconst 1, 1)], [(528, .iadd, 1), (529, .iaload, 1), (530, .aload_n 0, 1), (531, .iload 4, 2), (533, .iconst 2, 1), (534, .iadd, 1), (535, .iaload, 1), (536, .aload_n 0, 1), (537, .iload 4, 2), (539, .iconst 3, 1), (540, .iadd, 1), (541, .iaload, 1), (542, .aload_n 0, 1), (543, .iload 4, 2)], [(545, .iconst 4, 1), (546, .iadd, 1), (547, .iaload, 1), (548, .invokevirtual 74, 3), (551, .pop, 1), (552, .goto 891, 3), (555, .aload_n 1, 1), (556, .aload_n 0, 1), (557, .iload 4, 2), (559, .iconst 1, 1)], [(560, .iadd, 1), (561, .iaload, 1), (562, .aload_n 0, 1), (563, .iload 4, 2), (565, .iconst 2, 1), (566, .iadd, 1), (567, .iaload, 1), (568, .invokevirtual 75, 3), (571, .pop, 1), (572, .aload_n 2, 1), (573, .aload_n 0, 1), (574, .iload 4, 2)], [(576, .iconst 1, 1), (577, .iadd, 1), (578, .iaload, 1), (579, .aload_n 0, 1), (580, .iload 4, 2), (582, .iconst 2, 1), (583, .iadd, 1), (584, .iaload, 1), (585, .invokevirtual 78, 3), (588, .pop, 1), (589, .goto 854, 3)], [(592, .aload_n 1, 1), (593, .aload_n 0, 1), (594, .iload 4, 2), (596, .iconst 1, 1), (597, .iadd, 1), (598, .iaload, 1), (599, .invokevirtual 79, 3), (602, .pop, 1), (603, .aload_n 2, 1), (604, .aload_n 0, 1), (605, .iload 4, 2), (607, .iconst 1, 1)], [(608, .iadd, 1), (609, .iaload, 1), (610, .invokevirtual 82, 3), (613, .pop, 1), (614, .goto 829, 3), (617, .aload_n 1, 1), (618, .aload_n 0, 1), (619, .iload 4, 2), (621, .iconst 1, 1), (622, .iadd, 1), (623, .iaload, 1)], [(624, .aload_n 0, 1), (625, .iload 4, 2), (627, .iconst 2, 1), (628, .iadd, 1), (629, .iaload, 1), (630, .aload_n 0, 1), (631, .iload 4, 2), (633, .iconst 3, 1), (634, .iadd, 1), (635, .iaload, 1), (636, .invokevirtual 83, 3), (639, .pop, 1)], [(640, .aload_n 2, 1), (641, .aload_n 0, 1), (642, .iload 4, 2), (644, .iconst 1, 1), (645, .iadd, 1), (646, .iaload, 1), (647, .aload_n 0, 1), (648, .iload 4, 2), (650, .iconst 2, 1), (651, .iadd, 1), (652, .iaload, 1), (653, .aload_n 0, 1), (654, .iload 4, 2)], [(656, .iconst 3, 1), (657, .iadd, 1), (658, .iaload, 1), (659, .invokevirtual 86, 3), (662, .pop, 1), (663, .goto 780, 3), (666, .aload_n 1, 1), (667, .aload_n 0, 1), (668, .iload 4, 2), (670, .iconst 1, 1), (671, .iadd, 1)], [(672, .iaload, 1), (673, .aload_n 0, 1), (674, .iload 4, 2), (676, .iconst 2, 1), (677, .iadd, 1), (678, .iaload, 1), (679, .invokevirtual 87, 3), (682, .pop, 1), (683, .aload_n 2, 1), (684, .aload_n 0, 1), (685, .iload 4, 2), (687, .iconst 1, 1)], [(688, .iadd, 1), (689, .iaload, 1), (690, .aload_n 0, 1), (691, .iload 4, 2), (693, .iconst 2, 1), (694, .iadd, 1), (695, .iaload, 1), (696, .invokevirtual 90, 3), (699, .pop, 1), (700, .goto 743, 3), (703, .aload_n 1, 1)], [(704, .invokevirtual 91, 3), (707, .pop, 1), (708, .aload_n 2, 1), (709, .invokevirtual 94, 3), (712, .pop, 1), (713, .goto 730, 3), (716, .aload_n 1, 1), (717, .invokevirtual 95, 3)], [(720, .pop, 1), (721, .aload_n 2, 1), (722, .invokevirtual 98, 3), (725, .pop, 1), (726, .goto 717, 3), (729, .aload_n 1, 1), (730, .aload_n 0, 1), (731, .iload 4, 2), (733, .iconst 1, 1), (734, .iadd, 1), (735, .iaload, 1)], [(736, .aload_n 0, 1), (737, .iload 4, 2), (739, .iconst 2, 1), (740, .iadd, 1), (741, .iaload, 1), (742, .invokevirtual 99, 3), (745, .pop, 1), (746, .aload_n 2, 1), (747, .aload_n 0, 1), (748, .iload 4, 2), (750, .iconst 1, 1), (751, .iadd, 1)], [(752, .iaload, 1), (753, .aload_n 0, 1), (754, .iload 4, 2), (756, .iconst 2, 1), (757, .iadd, 1), (758, .iaload, 1), (759, .invokevirtual 102, 3), (762, .pop, 1), (763, .goto 680, 3), (766, .aload_n 1, 1), (767, .aload_n 0, 1)]]
theorem imkL_g2 : imL_g2.all (fun c => c.all (fun e => decide (decode code e.1 = .ok e.2))) = true := dq_ok (by decide +kernel)
def imL_g3 : List (List (Nat × Instr × Nat)) := [[(768, .iload 4, 2), (770, .iconst 1, 1), (771, .iadd, 1), (772, .iaload, 1), (773, .invokevirtual 103, 3), (776, .pop, 1), (777, .aload_n 2, 1), (778, .aload_n 0, 1), (779, .iload 4, 2), (781, .iconst 1, 1), (782, .iadd, 1), (783, .iaload, 1)], [(784, .invokevirtual 106, 3), (787, .pop, 1), (788, .goto 655, 3), (791, .aload_n 1, 1), (792, .aload_n 0, 1), (793, .iload 4, 2), (795, .iconst 1, 1), (796, .iadd, 1), (797, .iaload, 1), (798, .aload_n 0, 1), (799, .iload 4, 2)], [(801, .iconst 2, 1), (802, .iadd, 1), (803, .iaload, 1), (804, .invokevirtual 107, 3), (807, .pop, 1), (808, .aload_n 2, 1), (809, .aload_n 0, 1), (810, .iload 4, 2), (812, .iconst 1, 1), (813, .iadd, 1), (814, .iaload, 1), (815, .aload_n 0, 1)], [(816, .iload 4, 2), (818, .iconst 2, 1), (819, .iadd, 1), (820, .iaload, 1), (821, .invokevirtual 110, 3), (824, .pop, 1), (825, .goto 618, 3), (828, .aload_n 1, 1), (829, .aload_n 0, 1), (830, .iload 4, 2)], [(832, .iconst 1, 1), (833, .iadd, 1), (834, .iaload, 1), (835, .aload_n 0, 1), (836, .iload 4, 2), (838, .iconst 2, 1), (839, .iadd, 1), (840, .iaload, 1), (841, .invokevirtual 111, 3), (844, .pop, 1), (845, .aload_n 2, 1), (846, .aload_n 0, 1), (847, .iload 4, 2)], [(849, .iconst 1, 1), (850, .iadd, 1), (851, .iaload, 1), (852, .aload_n 0, 1), (853, .iload 4, 2), (855, .iconst 2, 1), (856, .iadd, 1), (857, .iaload, 1), (858, .invokevirtual 114, 3), (861, .pop, 1), (862, .goto 581, 3)], [(865, .aload_n 1, 1), (866, .aload_n 0, 1), (867, .iload 4, 2), (869, .iconst 1, 1), (870, .iadd, 1), (871, .iaload, 1), (872, .invokevirtual 115, 3), (875, .pop, 1), (876, .aload_n 2, 1), (877, .aload_n 0, 1), (878, .iload 4, 2)], [(880, .iconst 1, 1), (881, .iadd, 1), (882, .iaload, 1), (883, .invokevirtual 118, 3), (886, .pop, 1), (887, .goto 556, 3), (890, .aload_n 1, 1), (891, .invokevirtual 119, 3), (894, .pop, 1), (895, .aload_n 2, 1)], [(896, .invokevirtual 122, 3), (899, .pop, 1), (900, .goto 543, 3), (903, .aload_n 1, 1), (904, .aload_n 0, 1), (905, .iload 4, 2), (907, .iconst 1, 1), (908, .iadd, 1), (909, .iaload, 1), (910, .aload_n 0, 1), (911, .iload 4, 2)], [(913, .iconst 2, 1), (914, .iadd, 1), (915, .iaload, 1), (916, .invokevirtual 123, 3), (919, .pop, 1), (920, .aload_n 2, 1), (921, .aload_n 0, 1), (922, .iload 4, 2), (924, .iconst 1, 1), (925, .iadd, 1), (926, .iaload, 1), (927, .aload_n 0, 1)], [(928, .iload 4, 2), (930, .iconst 2, 1), (931, .iadd, 1), (932, .iaload, 1), (933, .invokevirtual 126, 3), (936, .pop, 1), (937, .goto 506, 3), (940, .aload_n 1, 1), (941, .aload_n 0, 1), (942, .iload 4, 2)], [(944, .iconst 1, 1), (945, .iadd, 1), (946, .iaload, 1), (947, .aload_n 0, 1), (948, .iload 4, 2), (950, .iconst 2, 1), (951, .iadd, 1), (952, .iaload, 1), (953, .aload_n 0, 1), (954, .iload 4, 2), (956, .iconst 3, 1), (957, .iadd, 1), (958, .iaload, 1), (959, .aload_n 0, 1)], [(960, .iload 4, 2), (962, .iconst 4, 1), (963, .iadd, 1), (964, .iaload, 1), (965, .invokevirtual 127, 3), (968, .pop, 1), (969, .aload_n 2, 1), (970, .aload_n 0, 1), (971, .iload 4, 2), (973, .iconst 1, 1), (974, .iadd, 1), (975, .iaload, 1)], [(976, .aload_n 0, 1), (977, .iload 4, 2), (979, .iconst 2, 1), (980, .iadd, 1), (981, .iaload, 1), (982, .aload_n 0, 1), (983, .iload 4, 2), (985, .iconst 3, 1), (986, .iadd, 1), (987, .iaload, 1), (988, .aload_n 0, 1), (989, .iload 4, 2), (991, .iconst 4, 1)], [(992, .iadd, 1), (993, .iaload, 1), (994, .invokevirtual 130, 3), (997, .pop, 1), (998, .goto 445, 3), (1001, .aload_n 1, 1), (1002, .aload_n 0, 1), (1003, .iload 4, 2), (1005, .iconst 1, 1), (1006, .iadd, 1), (1007, .iaload, 1)], [(1008, .aload_n 0, 1), (1009, .iload 4, 2), (1011, .iconst 2, 1), (1012, .iadd, 1), (1013, .iaload, 1), (1014, .aload_n 0, 1), (1015, .iload 4, 2), (1017, .iconst 3, 1), (1018, .iadd, 1), (1019, .iaload, 1), (1020, .invokevirtual 131, 3), (1023, .pop, 1)]]
theorem imkL_g3 : imL_g3.all (fun c => c.all (fun e => decide (decode code e.1 = .ok e.2))) = true := dq_ok (by decide +kernel)
def imL_g4 : List (List (Nat × Instr × Nat)) := [[(1024, .aload_n 2, 1), (1025, .aload_n 0, 1), (1026, .iload 4, 2), (1028, .iconst 1, 1), (1029, .iadd, 1), (1030, .iaload, 1), (1031, .aload_n 0, 1), (1032, .iload 4, 2), (1034, .iconst 2, 1), (1035, .iadd, 1), (1036, .iaload, 1), (1037, .aload_n 0, 1), (1038, .iload 4, 2)], [(1040, .iconst 3, 1), (1041, .iadd, 1), (1042, .iaload, 1), (1043, .invokevirtual 134, 3), (1046, .pop, 1), (1047, .goto 396, 3), (1050, .aload_n 1, 1), (1051, .aload_n 0, 1), (1052, .iload 4, 2), (1054, .iconst 1, 1), (1055, .iadd, 1)], [(1056, .iaload, 1), (1057, .invokevirtual 135, 3), (1060, .pop, 1), (1061, .aload_n 2, 1), (1062, .aload_n 0, 1), (1063, .iload 4, 2), (1065, .iconst 1, 1), (1066, .iadd, 1), (1067, .iaload, 1), (1068, .invokevirtual 138, 3), (1071, .pop, 1)], [(1072, .goto 371, 3), (1075, .aload_n 1, 1), (1076, .aload_n 0, 1), (1077, .iload 4, 2), (1079, .iconst 1, 1), (1080, .iadd, 1), (1081, .iaload, 1), (1082, .aload_n 0, 1), (1083, .iload 4, 2), (1085, .iconst 2, 1), (1086, .iadd, 1), (1087, .iaload, 1)], [(1088, .invokevirtual 139, 3), (1091, .pop, 1), (1092, .aload_n 2, 1), (1093, .aload_n 0, 1), (1094, .iload 4, 2), (1096, .iconst 1, 1), (1097, .iadd, 1), (1098, .iaload, 1), (1099, .aload_n 0, 1), (1100, .iload 4, 2), (1102, .iconst 2, 1), (1103, .iadd, 1)], [(1104, .iaload, 1), (1105, .invokevirtual 142, 3), (1108, .pop, 1), (1109, .goto 334, 3), (1112, .aload_n 1, 1), (1113, .aload_n 0, 1), (1114, .iload 4, 2), (1116, .iconst 1, 1), (1117, .iadd, 1), (1118, .iaload, 1), (1119, .invokevirtual 143, 3)], [(1122, .pop, 1), (1123, .aload_n 2, 1), (1124, .aload_n 0, 1), (1125, .iload 4, 2), (1127, .iconst 1, 1), (1128, .iadd, 1), (1129, .iaload, 1), (1130, .invokevirtual 146, 3), (1133, .pop, 1), (1134, .goto 309, 3)], [(1137, .aload_n 1, 1), (1138, .invokevirtual 147, 3), (1141, .pop, 1), (1142, .aload_n 2, 1), (1143, .invokevirtual 150, 3), (1146, .pop, 1), (1147, .goto 296, 3), (1150, .aload_n 1, 1), (1151, .invokevirtual 151, 3)], [(1154, .pop, 1), (1155, .aload_n 2, 1), (1156, .invokevirtual 154, 3), (1159, .pop, 1), (1160, .goto 283, 3), (1163, .aload_n 1, 1), (1164, .invokevirtual 155, 3), (1167, .pop, 1)], [(1168, .aload_n 2, 1), (1169, .invokevirtual 158, 3), (1172, .pop, 1), (1173, .goto 270, 3), (1176, .aload_n 1, 1), (1177, .invokevirtual 159, 3), (1180, .pop, 1), (1181, .aload_n 2, 1), (1182, .invokevirtual 162, 3)], [(1185, .pop, 1), (1186, .goto 257, 3), (1189, .aload_n 1, 1), (1190, .aload_n 0, 1), (1191, .iload 4, 2), (1193, .iconst 1, 1), (1194, .iadd, 1), (1195, .iaload, 1), (1196, .aload_n 0, 1), (1197, .iload 4, 2), (1199, .iconst 2, 1)], [(1200, .iadd, 1), (1201, .iaload, 1), (1202, .invokevirtual 163, 3), (1205, .pop, 1), (1206, .aload_n 2, 1), (1207, .aload_n 0, 1), (1208, .iload 4, 2), (1210, .iconst 1, 1), (1211, .iadd, 1), (1212, .iaload, 1), (1213, .aload_n 0, 1), (1214, .iload 4, 2)], [(1216, .iconst 2, 1), (1217, .iadd, 1), (1218, .iaload, 1), (1219, .invokevirtual 166, 3), (1222, .pop, 1), (1223, .goto 220, 3), (1226, .aload_n 1, 1), (1227, .invokevirtual 167, 3), (1230, .pop, 1), (1231, .aload_n 2, 1)], [(1232, .invokevirtual 170, 3), (1235, .pop, 1), (1236, .goto 207, 3), (1239, .aload_n 1, 1), (1240, .invokevirtual 171, 3), (1243, .pop, 1), (1244, .aload_n 2, 1), (1245, .invokevirtual 174, 3)], [(1248, .pop, 1), (1249, .goto 194, 3), (1252, .aload_n 1, 1), (1253, .invokevirtual 175, 3), (1256, .pop, 1), (1257, .aload_n 2, 1), (1258, .invokevirtual 178, 3), (1261, .pop, 1), (1262, .goto 181, 3)], [(1265, .aload_n 1, 1), (1266, .invokevirtual 179, 3), (1269, .pop, 1), (1270, .aload_n 2, 1), (1271, .invokevirtual 182, 3), (1274, .pop, 1), (1275, .goto 168, 3), (1278, .aload_n 1, 1), (1279, .aload_n 0, 1)]]
theorem imkL_g4 : imL_g4.all (fun c => c.all (fun e => decide (decode code e.1 = .ok e.2))) = true := dq_ok (by decide +kernel)
def imL_g5 : List (List (Nat × Instr × Nat)) := [[(1280, .iload 4, 2), (1282, .iconst 1, 1), (1283, .iadd, 1), (1284, .iaload, 1), (1285, .invokevirtual 183, 3), (1288, .pop, 1), (1289, .aload_n 2, 1), (1290, .aload_n 0, 1), (1291, .iload 4, 2), (1293, .iconst 1, 1), (1294, .iadd, 1), (1295, .iaload, 1)], [(1296, .invokevirtual 186, 3), (1299, .pop, 1), (1300, .goto 143, 3), (1303, .aload_n 1, 1), (1304, .aload_n 0, 1), (1305, .iload 4, 2), (1307, .iconst 1, 1), (1308, .iadd, 1), (1309, .iaload, 1), (1310, .aload_n 0, 1), (1311, .iload 4, 2)], [(1313, .iconst 2, 1), (1314, .iadd, 1), (1315, .iaload, 1), (1316, .invokevirtual 187, 3), (1319, .pop, 1), (1320, .aload_n 2, 1), (1321, .aload_n 0, 1), (1322, .iload 4, 2), (1324, .iconst 1, 1), (1325, .iadd, 1), (1326, .iaload, 1), (1327, .aload_n 0, 1)], [(1328, .iload 4, 2), (1330, .iconst 2, 1), (1331, .iadd, 1), (1332, .iaload, 1), (1333, .invokevirtual 190, 3), (1336, .pop, 1), (1337, .goto 106, 3), (1340, .aload_n 1, 1), (1341, .aload_n 0, 1), (1342, .iload 4, 2)], [(1344, .iconst 1, 1), (1345, .iadd, 1), (1346, .iaload, 1), (1347, .invokevirtual 191, 3), (1350, .pop, 1), (1351, .aload_n 2, 1), (1352, .aload_n 0, 1), (1353, .iload 4, 2), (1355, .iconst 1, 1), (1356, .iadd, 1), (1357, .iaload, 1), (1358, .invokevirtual 194, 3)], [(1361, .pop, 1), (1362, .goto 81, 3), (1365, .aload_n 1, 1), (1366, .aload_n 0, 1), (1367, .iload 4, 2), (1369, .iconst 1, 1), (1370, .iadd, 1), (1371, .iaload, 1), (1372, .invokevirtual 195, 3), (1375, .pop, 1)], [(1376, .aload_n 2, 1), (1377, .aload_n 0, 1), (1378, .iload 4, 2), (1380, .iconst 1, 1), (1381, .iadd, 1), (1382, .iaload, 1), (1383, .invokevirtual 198, 3), (1386, .pop, 1), (1387, .goto 56, 3), (1390, .aload_n 1, 1), (1391, .aload_n 0, 1)], [(1392, .iload 4, 2), (1394, .iconst 1, 1), (1395, .iadd, 1), (1396, .iaload, 1), (1397, .invokevirtual 199, 3), (1400, .pop, 1), (1401, .aload_n 2, 1), (1402, .aload_n 0, 1), (1403, .iload 4, 2), (1405, .iconst 1, 1), (1406, .iadd, 1), (1407, .iaload, 1)], [(1408, .invokevirtual 202, 3), (1411, .pop, 1), (1412, .goto 31, 3), (1415, .aload_n 1, 1), (1416, .aload_n 0, 1), (1417, .iload 4, 2), (1419, .iconst 1, 1), (1420, .iadd, 1), (1421, .iaload, 1), (1422, .aload_n 3, 1), (1423, .invokestatic 203, 3)], [(1426, .istore 5, 2), (1428, .aload_n 2, 1), (1429, .aload_n 0, 1), (1430, .iload 4, 2), (1432, .iconst 1, 1), (1433, .iadd, 1), (1434, .iaload, 1), (1435, .invokevirtual 206, 3), (1438, .lstore 6, 2)], [(1440, .goto 3, 3), (1443, .iinc 4 5, 3), (1446, .goto (-1423), 3), (1449, .iconst 1, 1), (1450, .ireturn, 1)]]
theorem imkL_g5 : imL_g5.all (fun c => c.all (fun e => decide (decode code e.1 = .ok e.2))) = true := dq_ok (by decide +kernel)
theorem imL_eq : imL_law = imL_g0 ++ imL_g1 ++ imL_g2 ++ imL_g3 ++ imL_g4 ++ imL_g5 := rfl
theorem imkL_law : imL_law.all (fun c => c.all (fun e => decide (decode code e.1 = .ok e.2))) = true := by
  rw [imL_eq]
  simp only [List.all_append, imkL_g0, imkL_g1, imkL_g2, imkL_g3, imkL_g4, imkL_g5, Bool.and_self]
theorem imkL_court : imL_court.all (fun c => c.all (fun e => decide (decode method_3_code e.1 = .ok e.2))) = true := dq_ok (by decide +kernel)
theorem imkL_between : imL_between.all (fun c => c.all (fun e => decide (decode method_4_code e.1 = .ok e.2))) = true := dq_ok (by decide +kernel)
theorem imkL_gift : imL_gift.all (fun c => c.all (fun e => decide (decode method_5_code e.1 = .ok e.2))) = true := dq_ok (by decide +kernel)
theorem imkL_row : imL_row.all (fun c => c.all (fun e => decide (decode method_6_code e.1 = .ok e.2))) = true := dq_ok (by decide +kernel)
end MH00listsx7
section MH00listsx8
section MG06strnx0
/-! the String constants, and the methods of the JDK that they reach -/
def st_yL : MethodName := ⟨"java/lang/String", "length", "()I"⟩
abbrev st_cL : ByteArray := prog_21_method_54_code
theorem st_dL_0 : decode st_cL 0 = .ok (.aload_n 0, 1) := by decide +kernel
theorem st_dL_1 : decode st_cL 1 = .ok (.getfield 9, 3) := by decide +kernel
theorem st_dL_4 : decode st_cL 4 = .ok (.arraylength, 1) := by decide +kernel
theorem st_dL_5 : decode st_cL 5 = .ok (.aload_n 0, 1) := by decide +kernel
theorem st_dL_6 : decode st_cL 6 = .ok (.invokevirtual 335, 3) := by decide +kernel
theorem st_dL_9 : decode st_cL 9 = .ok (.ishr, 1) := by decide +kernel
theorem st_dL_10 : decode st_cL 10 = .ok (.ireturn, 1) := by decide +kernel
def st_yC : MethodName := ⟨"java/lang/String", "coder", "()B"⟩
abbrev st_cC : ByteArray := prog_21_method_152_code
theorem st_dC_0 : decode st_cC 0 = .ok (.getstatic 38, 3) := by decide +kernel
theorem st_dC_3 : decode st_cC 3 = .ok (.ifCond .eq 10, 3) := by decide +kernel
theorem st_dC_6 : decode st_cC 6 = .ok (.aload_n 0, 1) := by decide +kernel
theorem st_dC_7 : decode st_cC 7 = .ok (.getfield 15, 3) := by decide +kernel
theorem st_dC_10 : decode st_cC 10 = .ok (.goto 4, 3) := by decide +kernel
theorem st_dC_13 : decode st_cC 13 = .ok (.iconst 1, 1) := by decide +kernel
theorem st_dC_14 : decode st_cC 14 = .ok (.ireturn, 1) := by decide +kernel
def st_yA : MethodName := ⟨"java/lang/String", "charAt", "(I)C"⟩
abbrev st_cA : ByteArray := prog_21_method_56_code
theorem st_dA_0 : decode st_cA 0 = .ok (.aload_n 0, 1) := by decide +kernel
theorem st_dA_1 : decode st_cA 1 = .ok (.invokevirtual 492, 3) := by decide +kernel
theorem st_dA_4 : decode st_cA 4 = .ok (.ifCond .eq 12, 3) := by decide +kernel
theorem st_dA_7 : decode st_cA 7 = .ok (.aload_n 0, 1) := by decide +kernel
theorem st_dA_8 : decode st_cA 8 = .ok (.getfield 9, 3) := by decide +kernel
theorem st_dA_11 : decode st_cA 11 = .ok (.iload_n 1, 1) := by decide +kernel
theorem st_dA_12 : decode st_cA 12 = .ok (.invokestatic 495, 3) := by decide +kernel
theorem st_dA_15 : decode st_cA 15 = .ok (.ireturn, 1) := by decide +kernel
theorem st_dA_16 : decode st_cA 16 = .ok (.aload_n 0, 1) := by decide +kernel
theorem st_dA_17 : decode st_cA 17 = .ok (.getfield 9, 3) := by decide +kernel
theorem st_dA_20 : decode st_cA 20 = .ok (.iload_n 1, 1) := by decide +kernel
theorem st_dA_21 : decode st_cA 21 = .ok (.invokestatic 498, 3) := by decide +kernel
theorem st_dA_24 : decode st_cA 24 = .ok (.ireturn, 1) := by decide +kernel
def st_yI : MethodName := ⟨"java/lang/String", "isLatin1", "()Z"⟩
abbrev st_cI : ByteArray := prog_21_method_154_code
theorem st_dI_0 : decode st_cI 0 = .ok (.getstatic 38, 3) := by decide +kernel
theorem st_dI_3 : decode st_cI 3 = .ok (.ifCond .eq 14, 3) := by decide +kernel
theorem st_dI_6 : decode st_cI 6 = .ok (.aload_n 0, 1) := by decide +kernel
theorem st_dI_7 : decode st_cI 7 = .ok (.getfield 15, 3) := by decide +kernel
theorem st_dI_10 : decode st_cI 10 = .ok (.ifCond .ne 7, 3) := by decide +kernel
theorem st_dI_13 : decode st_cI 13 = .ok (.iconst 1, 1) := by decide +kernel
theorem st_dI_14 : decode st_cI 14 = .ok (.goto 4, 3) := by decide +kernel
theorem st_dI_17 : decode st_cI 17 = .ok (.iconst 0, 1) := by decide +kernel
theorem st_dI_18 : decode st_cI 18 = .ok (.ireturn, 1) := by decide +kernel
def st_yB : MethodName := ⟨"java/lang/StringLatin1", "charAt", "([BI)C"⟩
abbrev st_cB : ByteArray := prog_22_method_2_code
theorem st_dB_0 : decode st_cB 0 = .ok (.iload_n 1, 1) := by decide +kernel
theorem st_dB_1 : decode st_cB 1 = .ok (.aload_n 0, 1) := by decide +kernel
theorem st_dB_2 : decode st_cB 2 = .ok (.arraylength, 1) := by decide +kernel
theorem st_dB_3 : decode st_cB 3 = .ok (.invokestatic 9, 3) := by decide +kernel
theorem st_dB_6 : decode st_cB 6 = .ok (.aload_n 0, 1) := by decide +kernel
theorem st_dB_7 : decode st_cB 7 = .ok (.iload_n 1, 1) := by decide +kernel
theorem st_dB_8 : decode st_cB 8 = .ok (.baload, 1) := by decide +kernel
theorem st_dB_9 : decode st_cB 9 = .ok (.sipush 255, 3) := by decide +kernel
theorem st_dB_12 : decode st_cB 12 = .ok (.iand, 1) := by decide +kernel
theorem st_dB_13 : decode st_cB 13 = .ok (.i2c, 1) := by decide +kernel
theorem st_dB_14 : decode st_cB 14 = .ok (.ireturn, 1) := by decide +kernel
def st_yK : MethodName := ⟨"java/lang/String", "checkIndex", "(II)V"⟩
abbrev st_cK : ByteArray := prog_21_method_155_code
theorem st_dK_0 : decode st_cK 0 = .ok (.iload_n 0, 1) := by decide +kernel
theorem st_dK_1 : decode st_cK 1 = .ok (.iload_n 1, 1) := by decide +kernel
theorem st_dK_2 : decode st_cK 2 = .ok (.getstatic 1053, 3) := by decide +kernel
theorem st_dK_5 : decode st_cK 5 = .ok (.invokestatic 1059, 3) := by decide +kernel
theorem st_dK_8 : decode st_cK 8 = .ok (.pop, 1) := by decide +kernel
theorem st_dK_9 : decode st_cK 9 = .ok (.return_, 1) := by decide +kernel
def st_yP : MethodName := ⟨"jdk/internal/util/Preconditions", "checkIndex", "(IILjava/util/function/BiFunction;)I"⟩
abbrev st_cP : ByteArray := prog_29_method_11_code
theorem st_dP_0 : decode st_cP 0 = .ok (.iload_n 0, 1) := by decide +kernel
theorem st_dP_1 : decode st_cP 1 = .ok (.ifCond .lt 8, 3) := by decide +kernel
theorem st_dP_4 : decode st_cP 4 = .ok (.iload_n 0, 1) := by decide +kernel
theorem st_dP_5 : decode st_cP 5 = .ok (.iload_n 1, 1) := by decide +kernel
theorem st_dP_6 : decode st_cP 6 = .ok (.if_icmp .lt 10, 3) := by decide +kernel
theorem st_dP_9 : decode st_cP 9 = .ok (.aload_n 2, 1) := by decide +kernel
theorem st_dP_10 : decode st_cP 10 = .ok (.iload_n 0, 1) := by decide +kernel
theorem st_dP_11 : decode st_cP 11 = .ok (.iload_n 1, 1) := by decide +kernel
theorem st_dP_12 : decode st_cP 12 = .ok (.invokestatic 95, 3) := by decide +kernel
theorem st_dP_16 : decode st_cP 16 = .ok (.iload_n 0, 1) := by decide +kernel
theorem st_dP_17 : decode st_cP 17 = .ok (.ireturn, 1) := by decide +kernel
def st_ws : List Cond := [.code st_yL st_cL 1 (some .int), .code st_yC st_cC 1 (some .byte), .code st_yA st_cA 2 (some .char), .code st_yI st_cI 1 (some .boolean), .code st_yB st_cB 2 (some .char), .code st_yK st_cK 2 (none), .code st_yP st_cP 3 (some .int), .methodLink "java/lang/String" 335 st_yC, .methodLink "java/lang/String" 492 st_yI, .methodLink "java/lang/String" 495 st_yB, .methodLink "java/lang/StringLatin1" 9 st_yK, .methodLink "java/lang/String" 1059 st_yP, .fieldLink "java/lang/String" 9 "java/lang/String" "value" "[B", .fieldLink "java/lang/String" 15 "java/lang/String" "coder" "B", .fieldLink "java/lang/String" 38 "java/lang/String" "COMPACT_STRINGS" "Z", .fieldLink "java/lang/String" 1053 "jdk/internal/util/Preconditions" "SIOOBE_FORMATTER" "Ljava/util/function/BiFunction;", .instanceMethod st_yL, .selects "java/lang/String" st_yL st_yL, .instanceMethod st_yC, .selects "java/lang/String" st_yC st_yC, .instanceMethod st_yA, .selects "java/lang/String" st_yA st_yA, .instanceMethod st_yI, .selects "java/lang/String" st_yI st_yI, .static st_yB, .static st_yK, .static st_yP, .initialized "java/lang/String", .initialized "java/lang/StringLatin1", .initialized "jdk/internal/util/Preconditions"]
def st_ps : List Nat := [1409, 1413, 1419, 1423, 1426, 1429, 1434, 1410, 1420, 1424, 1427, 1432, 1822, 1823, 1414, 1430, 1407, 1408, 1411, 1412, 1417, 1418, 1421, 1422, 1425, 1428, 1433, 104, 105, 106]
def st_L : List (List Int32) := [[119, 107, 114, 115, 104, 101, 100], [60, 62, 61], [43, 45], [42, 47], [115, 109, 102, 112, 113]]
def st_tx (i : Nat) : List Int32 := match pm_nth st_L i with
  | some l => l
  | none => []
def st_T : List String := ["wkrshed", "<>=", "+-", "*/", "smfpq"]
/-- by the owner of the pool and the place: which -/
def st_str (o j : Nat) : Option Nat := cond (Nat.beq o 11) (pm_fd [(236, 0), (245, 1), (247, 2), (249, 3), (380, 4)] j) none
end MG06strnx0
section MG06strnx1
/-! A PURE MACHINE: the bytecode of the class, of its reference and of what they call, run on numbered cells. 'pm_run' is a plain function; 'pm_sound' (next part) says that what it answers the real machine answers too. The tables T are a parameter. -/
abbrev pm_E : Type := (Nat × vp_A) ⊕ (Nat × List Value)
abbrev pm_H : Type := Nat → pm_E
abbrev pm_L : Type := List (Option Value)
/-- a method: its name, code, locals, answer's type, owner of its constant pool, how many values it takes (this, too), its class's number -/
abbrev pm_M : Type := MethodName × ByteArray × Nat × Option FieldType × Nat × Nat × Nat
/-- classes of objects with their first fields; array types; owners of constant pools; methods; instructions by place; fields by (owner, index): class, place, kind; methods by (owner, index): way, number; classes by (owner, index); constants -/
abbrev pm_Tab : Type := (List vw_C) × (Nat → List Value) × (List FieldType) × (Nat → String) × (Nat → pm_M) × (Nat → Nat → Option (Instr × Nat)) × (Nat → Nat → Option (Nat × Nat × Nat)) × (Nat → Nat → Option (Nat × Nat)) × (Nat → Nat → Option Nat) × (Nat → Nat → Option Int32) × (Nat → Nat → Option Int64)
def pm_cl (T : pm_Tab) : List vw_C := T.1
def pm_df (T : pm_Tab) : Nat → List Value := T.2.1
def pm_ty (T : pm_Tab) : List FieldType := T.2.2.1
def pm_own (T : pm_Tab) : Nat → String := T.2.2.2.1
def pm_m (T : pm_Tab) : Nat → pm_M := T.2.2.2.2.1
def pm_y (T : pm_Tab) (k : Nat) : MethodName := (pm_m T k).1
def pm_code (T : pm_Tab) (k : Nat) : ByteArray := (pm_m T k).2.1
def pm_max (T : pm_Tab) (k : Nat) : Nat := (pm_m T k).2.2.1
def pm_ret (T : pm_Tab) (k : Nat) : Option FieldType := (pm_m T k).2.2.2.1
def pm_o (T : pm_Tab) (k : Nat) : Nat := (pm_m T k).2.2.2.2.1
def pm_na (T : pm_Tab) (k : Nat) : Nat := (pm_m T k).2.2.2.2.2.1
/-- its class's number; a constructor's entry is 100 more -/
def pm_ci (T : pm_Tab) (k : Nat) : Nat := (pm_m T k).2.2.2.2.2.2 % 100
def pm_init (T : pm_Tab) (k : Nat) : Bool := Nat.ble 100 (pm_m T k).2.2.2.2.2.2
def pm_ins (T : pm_Tab) : Nat → Nat → Option (Instr × Nat) := T.2.2.2.2.2.1
def pm_fld (T : pm_Tab) : Nat → Nat → Option (Nat × Nat × Nat) := T.2.2.2.2.2.2.1
def pm_mlk (T : pm_Tab) : Nat → Nat → Option (Nat × Nat) := T.2.2.2.2.2.2.2.1
def pm_clk (T : pm_Tab) : Nat → Nat → Option Nat := T.2.2.2.2.2.2.2.2.1
def pm_con (T : pm_Tab) : Nat → Nat → Option Int32 := T.2.2.2.2.2.2.2.2.2.1
def pm_conL (T : pm_Tab) : Nat → Nat → Option Int64 := T.2.2.2.2.2.2.2.2.2.2
/-- locals -/
def pm_get (L : pm_L) (i : Nat) : Option Value := match L[i]? with
  | some (some v) => some v
  | _ => none
def pm_cat2 (L : pm_L) (i : Nat) : Bool := match pm_get L i with
  | some v => v.category == 2
  | none => false
/-- a long just below i loses its second half -/
def pm_cut (L : pm_L) (i : Nat) : pm_L := match i with
  | 0 => L
  | j + 1 => if pm_cat2 L j = true then L.set j none else L
def pm_st1 (L : pm_L) (i : Nat) (v : Value) : pm_L := (pm_cut L i).set i (some v)
def pm_st2 (L : pm_L) (i : Nat) (v : Value) : pm_L := ((pm_cut L i).set i (some v)).set (i + 1) none
def pm_args : List Value → pm_L
  | [] => []
  | v :: vs => if v.category = 2 then some v :: none :: pm_args vs else some v :: pm_args vs
def pm_l0 (vs : List Value) (n : Nat) : pm_L := pm_args vs ++ List.replicate (n - (pm_args vs).length) none
abbrev pm_St : Type := Nat × pm_L × List Value × pm_H × Nat × Nat
def pm_tgt (pc : Nat) (off : Int) : Option Nat := if 0 ≤ (pc : Int) + off then some ((pc : Int) + off).toNat else none
def pm_cmp (c : Jvm.ClassFile.Cond) (x y : Int32) : Bool := match c with
  | .eq => decide (x = y)
  | .ne => decide (¬ x = y)
  | .lt => decide (x < y)
  | .ge => decide (y ≤ x)
  | .gt => decide (y < x)
  | .le => decide (x ≤ y)
def pm_in (i : Int32) (n : Nat) : Bool := decide (¬ (i < 0 ∨ n ≤ i.toNatClampNeg))
/-- kinds of a value: 0 int, 1 long, 2 a reference (.ref to a numbered cell; .retAddr i stands for a reference to the i-th of the cells outside) -/
def pm_isT (t : Nat) (v : Value) : Bool := match t, v with
  | 0, .int _ => true
  | 1, .long _ => true
  | 2, .ref _ => true
  | 2, .retAddr _ => true
  | _, _ => false
def pm_ld (t : Nat) (L : pm_L) (i : Nat) : Option Value := match pm_get L i with
  | some v => if pm_isT t v = true then some v else none
  | none => none
def pm_bi (f : Int32 → Int32 → Int32) (pc : Nat) (L : pm_L) (S : List Value) (h : pm_H) (sz sl : Nat) : Option pm_St := match S with
  | .int y :: .int x :: r => some (pc + 1, L, .int (f x y) :: r, h, sz, sl)
  | _ => none
/-- a division -/
def pm_bd (f : Int32 → Int32 → Int32) (pc : Nat) (L : pm_L) (S : List Value) (h : pm_H) (sz sl : Nat) : Option pm_St := match S with
  | .int y :: .int x :: r => if y = 0 then none else some (pc + 1, L, .int (f x y) :: r, h, sz, sl)
  | _ => none
def pm_bl (f : Int64 → Int64 → Int64) (pc : Nat) (L : pm_L) (S : List Value) (h : pm_H) (sz sl : Nat) : Option pm_St := match S with
  | .long y :: .long x :: r => some (pc + 1, L, .long (f x y) :: r, h, sz, sl)
  | _ => none
def pm_bdL (f : Int64 → Int64 → Int64) (pc : Nat) (L : pm_L) (S : List Value) (h : pm_H) (sz sl : Nat) : Option pm_St := match S with
  | .long y :: .long x :: r => if y = 0 then none else some (pc + 1, L, .long (f x y) :: r, h, sz, sl)
  | _ => none
def pm_ui (f : Int32 → Value) (pc : Nat) (L : pm_L) (S : List Value) (h : pm_H) (sz sl : Nat) : Option pm_St := match S with
  | .int x :: r => some (pc + 1, L, f x :: r, h, sz, sl)
  | _ => none
def pm_lo (t n pc i : Nat) (L : pm_L) (S : List Value) (h : pm_H) (sz sl : Nat) : Option pm_St := match pm_ld t L i with
  | some v => some (pc + n, L, v :: S, h, sz, sl)
  | none => none
def pm_so (t n mx pc i : Nat) (L : pm_L) (S : List Value) (h : pm_H) (sz sl : Nat) : Option pm_St := match S with
  | v :: r => if pm_isT t v = true ∧ i < mx then some (pc + n, pm_st1 L i v, r, h, sz, sl) else none
  | _ => none
def pm_sL (n mx pc i : Nat) (L : pm_L) (S : List Value) (h : pm_H) (sz sl : Nat) : Option pm_St := match S with
  | .long x :: r => if i + 1 < mx then some (pc + n, pm_st2 L i (.long x), r, h, sz, sl) else none
  | _ => none
def pm_jp (pc : Nat) (off : Int) (L : pm_L) (S : List Value) (h : pm_H) (sz sl : Nat) : Option pm_St := match pm_tgt pc off with
  | some t => some (t, L, S, h, sz, sl)
  | none => none
def pm_br (b : Bool) (pc : Nat) (off : Int) (L : pm_L) (S : List Value) (h : pm_H) (sz sl : Nat) : Option pm_St := match pm_tgt pc off with
  | some t => (match b with
    | true => some (t, L, S, h, sz, sl)
    | false => some (pc + 3, L, S, h, sz, sl))
  | none => none
def pm_iar (T : pm_Tab) (ty : FieldType) (h : pm_H) (sz a : Nat) : Option (Nat × Nat × (Nat → Int32)) := if a < sz then (match h a with
  | .inl (kd, n, .inl f) => if (pm_ty T)[kd]? = some ty then some (kd, n, f) else none
  | _ => none) else none
def pm_lar (T : pm_Tab) (h : pm_H) (sz a : Nat) : Option (Nat × Nat × (Nat → Int64)) := if a < sz then (match h a with
  | .inl (kd, n, .inr (.inl f)) => if (pm_ty T)[kd]? = some .long then some (kd, n, f) else none
  | _ => none) else none
def pm_qar (h : pm_H) (sz a : Nat) : Option (Nat × Nat × (Nat → Option Nat)) := if a < sz then (match h a with
  | .inl (kd, n, .inr (.inr (.inr (.inr f)))) => some (kd, n, f)
  | _ => none) else none
def pm_obj (h : pm_H) (sz a : Nat) : Option (Nat × List Value) := if a < sz then (match h a with
  | .inr o => some o
  | _ => none) else none
def pm_ia (T : pm_Tab) (ty : FieldType) (pc : Nat) (L : pm_L) (S : List Value) (h : pm_H) (sz sl : Nat) : Option pm_St := match S with
  | .int i :: .ref a :: r => (match pm_iar T ty h sz a with
    | some (_, n, f) => if pm_in i n = true then some (pc + 1, L, .int (f i.toNatClampNeg) :: r, h, sz, sl) else none
    | none => none)
  | _ => none
def pm_iS (T : pm_Tab) (ty : FieldType) (nr : Int32 → Int32) (pc : Nat) (L : pm_L) (S : List Value) (h : pm_H) (sz sl : Nat) : Option pm_St := match S with
  | .int x :: .int i :: .ref a :: r => (match pm_iar T ty h sz a with
    | some (kd, n, f) => if pm_in i n = true then some (pc + 1, L, r, va_up h a (.inl (kd, n, .inl (upd f i.toNatClampNeg (nr x)))), sz, sl) else none
    | none => none)
  | _ => none
def pm_la (T : pm_Tab) (pc : Nat) (L : pm_L) (S : List Value) (h : pm_H) (sz sl : Nat) : Option pm_St := match S with
  | .int i :: .ref a :: r => (match pm_lar T h sz a with
    | some (_, n, f) => if pm_in i n = true then some (pc + 1, L, .long (f i.toNatClampNeg) :: r, h, sz, sl) else none
    | none => none)
  | _ => none
def pm_lS (T : pm_Tab) (pc : Nat) (L : pm_L) (S : List Value) (h : pm_H) (sz sl : Nat) : Option pm_St := match S with
  | .long x :: .int i :: .ref a :: r => (match pm_lar T h sz a with
    | some (kd, n, f) => if pm_in i n = true then some (pc + 1, L, r, va_up h a (.inl (kd, n, .inr (.inl (vp_updL f i.toNatClampNeg x)))), sz, sl) else none
    | none => none)
  | _ => none
def pm_isObj (t : Option FieldType) : Bool := match t with
  | some (.object _) => true
  | _ => false
def pm_qa (T : pm_Tab) (pc : Nat) (L : pm_L) (S : List Value) (h : pm_H) (sz sl : Nat) : Option pm_St := match S with
  | .int i :: .ref a :: r => (match pm_qar h sz a with
    | some (kd, n, f) => if pm_in i n = true ∧ pm_isObj (pm_ty T)[kd]? = true then some (pc + 1, L, va_rf (f i.toNatClampNeg) :: r, h, sz, sl) else none
    | none => none)
  | _ => none
def pm_qS (T : pm_Tab) (pc : Nat) (L : pm_L) (S : List Value) (h : pm_H) (sz sl : Nat) : Option pm_St := match S with
  | .ref v :: .int i :: .ref a :: r => (match pm_qar h sz a with
    | some (kd, n, f) => (match pm_obj h sz v with
      | some (ci, _) => if pm_in i n = true ∧ (pm_ty T)[kd]? = ((pm_cl T)[ci]?).map (fun q => FieldType.object q.1) ∧ ci < (pm_cl T).length then some (pc + 1, L, r, va_up h a (.inl (kd, n, .inr (.inr (.inr (.inr (va_up f i.toNatClampNeg (some v))))))), sz, sl) else none
      | none => none)
    | none => none)
  | _ => none
def pm_al (T : pm_Tab) (pc : Nat) (L : pm_L) (S : List Value) (h : pm_H) (sz sl : Nat) : Option pm_St := match S with
  | .ref a :: r => if a < sz then (match h a with
    | .inl (kd, n, _) => if ((pm_ty T)[kd]?).isSome = true then some (pc + 1, L, .int (Int32.ofNat n) :: r, h, sz, sl) else none
    | _ => none) else none
  | _ => none
/-- does a value fit a field: 0 int, 1 long, 2 a reference, 3 boolean; 10 more: final, of the pool's owner; 20 more: final, not to be written -/
def pm_fits (t : Nat) (v : Value) : Bool := match t, v with
  | 0, .int _ => true
  | 1, .long _ => true
  | 2, .ref _ => true
  | 3, .int x => decide (x = 0 ∨ x = 1)
  | _, _ => false
def pm_gf (T : pm_Tab) (k idx pc : Nat) (L : pm_L) (S : List Value) (h : pm_H) (sz sl : Nat) : Option pm_St := match S with
  | .ref a :: r => (match pm_obj h sz a, pm_fld T (pm_o T k) idx with
    | some (ci, fs), some (cj, f, _) => if cj = ci then (match fs[f]? with
        | some v => some (pc + 3, L, v :: r, h, sz, sl)
        | none => none) else none
    | _, _ => none)
  | _ => none
def pm_pf (T : pm_Tab) (k idx pc : Nat) (L : pm_L) (S : List Value) (h : pm_H) (sz sl : Nat) : Option pm_St := match S with
  | v :: .ref a :: r => (match pm_obj h sz a, pm_fld T (pm_o T k) idx with
    | some (ci, fs), some (cj, f, t) => if cj = ci ∧ f < fs.length ∧ pm_fits (t % 10) v = true ∧ (t < 10 ∨ (t < 20 ∧ pm_init T k = true)) then some (pc + 3, L, r, va_up h a (.inr (ci, fs.set f v)), sz, sl) else none
    | _, _ => none)
  | _ => none
/-- a new cell -/
def pm_nw (e : pm_E) (n len pc : Nat) (L : pm_L) (S : List Value) (h : pm_H) (sz sl : Nat) : Option pm_St := some (pc + len, L, .ref sz :: S, va_up h sz e, sz + 1, sl + n)
def pm_tysAt (T : pm_Tab) (ty : FieldType) : Option Nat := (pm_ty T).findIdx? (fun t => t == ty)
def pm_newI (T : pm_Tab) (ty : FieldType) (pc : Nat) (L : pm_L) (S : List Value) (h : pm_H) (sz sl : Nat) : Option pm_St := match S with
  | .int n :: r => (match pm_tysAt T ty with
    | some kd => if ¬ n < 0 ∧ n.toNatClampNeg ≤ 65536 then pm_nw (.inl (kd, n.toNatClampNeg, .inl (fun _ => 0))) n.toNatClampNeg 2 pc L r h sz sl else none
    | none => none)
  | _ => none
def pm_newL (T : pm_Tab) (pc : Nat) (L : pm_L) (S : List Value) (h : pm_H) (sz sl : Nat) : Option pm_St := match S with
  | .int n :: r => (match pm_tysAt T .long with
    | some kd => if ¬ n < 0 ∧ n.toNatClampNeg ≤ 65536 then pm_nw (.inl (kd, n.toNatClampNeg, .inr (.inl (fun _ => 0)))) n.toNatClampNeg 2 pc L r h sz sl else none
    | none => none)
  | _ => none
/-- an array of references: the table of classes by (owner plus 100, index) tells the array type's number plus 1000 -/
def pm_newQ (T : pm_Tab) (k idx pc : Nat) (L : pm_L) (S : List Value) (h : pm_H) (sz sl : Nat) : Option pm_St := match S with
  | .int n :: r => (match pm_clk T (100 + pm_o T k) idx with
    | some q => if 1000 ≤ q ∧ ¬ n < 0 ∧ n.toNatClampNeg ≤ 65536 then pm_nw (.inl (q - 1000, n.toNatClampNeg, .inr (.inr (.inr (.inr (fun _ => none)))))) n.toNatClampNeg 3 pc L r h sz sl else none
    | none => none)
  | _ => none
def pm_newO (T : pm_Tab) (k idx pc : Nat) (L : pm_L) (S : List Value) (h : pm_H) (sz sl : Nat) : Option pm_St := match pm_clk T (pm_o T k) idx with
  | some ci => if ci < 1000 then pm_nw (.inr (ci, pm_df T ci)) (pm_df T ci).length 3 pc L S h sz sl else none
  | none => none
def pm_sum (S : List Value) : Nat := (S.map fun v => v.category).sum
/-- what the library does: 6 Object.<init>, 7 Math.min, 8 Math.max, 9 System.arraycopy of ints -/
def pm_lib (T : pm_Tab) (fr lo w pc : Nat) (L : pm_L) (S : List Value) (h : pm_H) (sz sl : Nat) : Option pm_St := match w, S with
  | 6, .ref _ :: r => if 1 ≤ fr ∧ pm_sum r + 12 ≤ lo then some (pc + 3, L, r, h, sz, sl) else none
  | 7, .int y :: .int x :: r => if 1 ≤ fr ∧ pm_sum r + 13 ≤ lo then some (pc + 3, L, .int (if y < x then y else x) :: r, h, sz, sl) else none
  | 8, .int y :: .int x :: r => if 1 ≤ fr ∧ pm_sum r + 13 ≤ lo then some (pc + 3, L, .int (if x < y then y else x) :: r, h, sz, sl) else none
  | 9, .int n :: .int dp :: .ref a :: .int sp :: .ref a0 :: r => (match pm_iar T .int h sz a0, pm_iar T .int h sz a with
    | some (_, n0, f), some (kd, n1, g) => if (1 ≤ fr ∧ pm_sum r + 60 ≤ lo) ∧ ¬ sp < 0 ∧ ¬ dp < 0 ∧ ¬ n < 0 ∧ sp.toNatClampNeg + n.toNatClampNeg ≤ n0 ∧ dp.toNatClampNeg + n.toNatClampNeg ≤ n1 then some (pc + 3, L, r, va_up h a (.inl (kd, n1, .inl (va_cpy f g sp.toNatClampNeg dp.toNatClampNeg n.toNatClampNeg))), sz, sl) else none
    | _, _ => none)
  | _, _ => none
def pm_libW (T : pm_Tab) (sp : Bool) (fr lo k idx pc : Nat) (L : pm_L) (S : List Value) (h : pm_H) (sz sl : Nat) : Option pm_St := match pm_mlk T (pm_o T k) idx with
  | some (w, _) => if (w == 6) = sp then pm_lib T fr lo w pc L S h sz sl else none
  | none => none
/-- on a String constant: 10 length(), 11 charAt(int) -/
def pm_libV (T : pm_Tab) (fr lo k idx pc : Nat) (L : pm_L) (S : List Value) (h : pm_H) (sz sl : Nat) : Option pm_St := match pm_mlk T (pm_o T k) idx, S with
  | some (10, _), .retAddr i :: r => if i < 5 ∧ 5 ≤ fr ∧ 200 ≤ lo ∧ pm_sum r ≤ 8 then some (pc + 3, L, .int (Int32.ofNat (st_tx i).length) :: r, h, sz, sl) else none
  | some (11, _), .int x :: .retAddr i :: r => if i < 5 ∧ 5 ≤ fr ∧ 200 ≤ lo ∧ pm_sum r ≤ 8 ∧ pm_in x (st_tx i).length = true then some (pc + 3, L, .int ((st_tx i).getD x.toNatClampNeg 0) :: r, h, sz, sl) else none
  | _, _ => none
def pm_lenOk (i : Instr) (len : Nat) : Bool := match i with
  | .bipush _ | .ldc _ | .iload _ | .lload _ | .aload _ | .istore _ | .lstore _ | .astore _ | .newarray _ => len == 2
  | .sipush _ | .ldc_w _ | .ldc2_w _ | .iinc _ _ | .ifCond _ _ | .if_icmp _ _ | .goto _ | .getfield _ | .putfield _ | .anewarray _ | .new _ | .invokevirtual _ | .invokestatic _ | .invokespecial _ => len == 3
  | .tableswitch _ _ _ _ | .lookupswitch _ _ => true
  | _ => len == 1
def pm_swOk (ps : List (Int × Int)) : Bool := (ps.zip (ps.drop 1)).all (fun (a, next) => a.1 < next.1)
def pm_simple (T : pm_Tab) (fr lo k : Nat) (i : Instr) (pc : Nat) (L : pm_L) (S : List Value) (h : pm_H) (sz sl : Nat) : Option pm_St := match i with
  | .iconst n => some (pc + 1, L, .int (Int32.ofInt n) :: S, h, sz, sl)
  | .bipush n => some (pc + 2, L, .int (Int8.ofInt n).toInt32 :: S, h, sz, sl)
  | .sipush n => some (pc + 3, L, .int (Int16.ofInt n).toInt32 :: S, h, sz, sl)
  | .lconst n => some (pc + 1, L, .long (Int64.ofNat n.val) :: S, h, sz, sl)
  | .ldc j => (match pm_con T (pm_o T k) j with
    | some v => some (pc + 2, L, .int v :: S, h, sz, sl)
    | none => (match st_str (pm_o T k) j with
      | some i => some (pc + 2, L, .retAddr i :: S, h, sz, sl)
      | none => none))
  | .ldc_w j => (match pm_con T (pm_o T k) j with
    | some v => some (pc + 3, L, .int v :: S, h, sz, sl)
    | none => (match st_str (pm_o T k) j with
      | some i => some (pc + 3, L, .retAddr i :: S, h, sz, sl)
      | none => none))
  | .ldc2_w j => (match pm_conL T (pm_o T k) j with
    | some v => some (pc + 3, L, .long v :: S, h, sz, sl)
    | none => none)
  | .iload j => pm_lo 0 2 pc j L S h sz sl
  | .iload_n j => pm_lo 0 1 pc j.val L S h sz sl
  | .lload j => pm_lo 1 2 pc j L S h sz sl
  | .lload_n j => pm_lo 1 1 pc j.val L S h sz sl
  | .aload j => pm_lo 2 2 pc j L S h sz sl
  | .aload_n j => pm_lo 2 1 pc j.val L S h sz sl
  | .istore j => pm_so 0 2 (pm_max T k) pc j L S h sz sl
  | .istore_n j => pm_so 0 1 (pm_max T k) pc j.val L S h sz sl
  | .astore j => pm_so 2 2 (pm_max T k) pc j L S h sz sl
  | .astore_n j => pm_so 2 1 (pm_max T k) pc j.val L S h sz sl
  | .lstore j => pm_sL 2 (pm_max T k) pc j L S h sz sl
  | .lstore_n j => pm_sL 1 (pm_max T k) pc j.val L S h sz sl
  | .iinc j n => (match pm_get L j with
    | some (.int x) => if j < pm_max T k then some (pc + 3, pm_st1 L j (.int (x + Int32.ofInt n)), S, h, sz, sl) else none
    | _ => none)
  | .iadd => pm_bi (fun x y => x + y) pc L S h sz sl
  | .isub => pm_bi (fun x y => x - y) pc L S h sz sl
  | .imul => pm_bi (fun x y => x * y) pc L S h sz sl
  | .iand => pm_bi (fun x y => x &&& y) pc L S h sz sl
  | .ior => pm_bi (fun x y => x ||| y) pc L S h sz sl
  | .ixor => pm_bi (fun x y => x ^^^ y) pc L S h sz sl
  | .ishl => pm_bi (fun x y => x <<< (y &&& 31)) pc L S h sz sl
  | .ishr => pm_bi (fun x y => x >>> (y &&& 31)) pc L S h sz sl
  | .iushr => pm_bi (fun x y => (x.toUInt32 >>> (y.toUInt32 &&& Int32.toUInt32 31)).toInt32) pc L S h sz sl
  | .idiv => pm_bd (fun x y => x / y) pc L S h sz sl
  | .irem => pm_bd (fun x y => x - x / y * y) pc L S h sz sl
  | .ineg => pm_ui (fun x => .int (-x)) pc L S h sz sl
  | .i2l => pm_ui (fun x => .long x.toInt64) pc L S h sz sl
  | .i2b => pm_ui (fun x => .int x.toInt8.toInt32) pc L S h sz sl
  | .i2s => pm_ui (fun x => .int x.toInt16.toInt32) pc L S h sz sl
  | .i2c => pm_ui (fun x => .int (x.toUInt32 % 65536).toInt32) pc L S h sz sl
  | .lmul => pm_bl (fun x y => x * y) pc L S h sz sl
  | .ladd => pm_bl (fun x y => x + y) pc L S h sz sl
  | .lsub => pm_bl (fun x y => x - y) pc L S h sz sl
  | .ldiv => pm_bdL (fun x y => x / y) pc L S h sz sl
  | .lrem => pm_bdL (fun x y => x - x / y * y) pc L S h sz sl
  | .lcmp => (match S with
    | .long y :: .long x :: r => some (pc + 1, L, .int (lg_cmp x y) :: r, h, sz, sl)
    | _ => none)
  | .dup => (match S with
    | v :: r => if v.category = 1 then some (pc + 1, L, v :: v :: r, h, sz, sl) else none
    | _ => none)
  | .pop => (match S with
    | v :: r => if v.category = 1 then some (pc + 1, L, r, h, sz, sl) else none
    | _ => none)
  | .dup_x1 => (match S with
    | v :: w :: r => if v.category = 1 ∧ w.category = 1 then some (pc + 1, L, v :: w :: v :: r, h, sz, sl) else none
    | _ => none)
  | .dup_x2 => (match S with
    | v :: w :: z :: r => if v.category = 1 ∧ w.category = 1 ∧ z.category = 1 then some (pc + 1, L, v :: w :: z :: v :: r, h, sz, sl) else none
    | _ => none)
  | .dup2 => (match S with
    | v :: w :: r => if v.category = 1 ∧ w.category = 1 then some (pc + 1, L, v :: w :: v :: w :: r, h, sz, sl) else none
    | _ => none)
  | .ifCond c off => (match S with
    | .int x :: r => pm_br (pm_cmp c x 0) pc off L r h sz sl
    | _ => none)
  | .if_icmp c off => (match S with
    | .int y :: .int x :: r => pm_br (pm_cmp c x y) pc off L r h sz sl
    | _ => none)
  | .goto off => pm_jp pc off L S h sz sl
  | .tableswitch d lo' hi offs => (match S with
    | .int x :: r => if x.toInt < lo' ∨ hi < x.toInt then pm_jp pc d L r h sz sl else (match offs[(x.toInt - lo').toNat]? with
      | some off => pm_jp pc off L r h sz sl
      | none => none)
    | _ => none)
  | .lookupswitch d ps => (match S with
    | .int x :: r => if pm_swOk ps.toList = true then pm_jp pc (Op.lookupswitch.offset ps.toList d x.toInt) L r h sz sl else none
    | _ => none)
  | .getfield j => pm_gf T k j pc L S h sz sl
  | .putfield j => pm_pf T k j pc L S h sz sl
  | .iaload => pm_ia T .int pc L S h sz sl
  | .caload => pm_ia T .char pc L S h sz sl
  | .baload => pm_ia T .boolean pc L S h sz sl
  | .laload => pm_la T pc L S h sz sl
  | .aaload => pm_qa T pc L S h sz sl
  | .iastore => pm_iS T .int (fun x => x) pc L S h sz sl
  | .castore => pm_iS T .char (fun x => vp_nar .char x) pc L S h sz sl
  | .bastore => pm_iS T .boolean (fun x => vp_nar .boolean x) pc L S h sz sl
  | .lastore => pm_lS T pc L S h sz sl
  | .aastore => pm_qS T pc L S h sz sl
  | .arraylength => pm_al T pc L S h sz sl
  | .newarray .int => pm_newI T .int pc L S h sz sl
  | .newarray .char => pm_newI T .char pc L S h sz sl
  | .newarray .boolean => pm_newI T .boolean pc L S h sz sl
  | .newarray .long => pm_newL T pc L S h sz sl
  | .anewarray j => pm_newQ T k j pc L S h sz sl
  | .new j => pm_newO T k j pc L S h sz sl
  | .invokespecial j => pm_libW T true fr lo k j pc L S h sz sl
  | .invokestatic j => pm_libW T false fr lo k j pc L S h sz sl
  | .invokevirtual j => pm_libV T fr lo k j pc L S h sz sl
  | _ => none
/-- a call of a method of the tables: 0 by the receiver's class, 1 the same of a nest mate, 2 static, 3 static of a nest mate, 4 a constructor, 5 one of a nest mate -/
def pm_callee (T : pm_Tab) (k : Nat) (i : Instr) : Option (Nat × Nat) := match i with
  | .invokevirtual j => (match pm_mlk T (pm_o T k) j with
    | some (0, t) => some (0, t)
    | some (1, t) => some (1, t)
    | _ => none)
  | .invokestatic j => (match pm_mlk T (pm_o T k) j with
    | some (2, t) => some (2, t)
    | some (3, t) => some (3, t)
    | _ => none)
  | .invokespecial j => (match pm_mlk T (pm_o T k) j with
    | some (4, t) => some (4, t)
    | some (5, t) => some (5, t)
    | _ => none)
  | _ => none
/-- the receiver is an object of the method's class -/
def pm_rcv (T : pm_Tab) (w t : Nat) (As : List Value) (h : pm_H) (sz : Nat) : Bool := if w = 2 ∨ w = 3 then true else (match As with
  | .ref a :: _ => (match pm_obj h sz a with
    | some (ci, _) => ci == pm_ci T t
    | none => false)
  | _ => false)
def pm_rets (T : pm_Tab) (k : Nat) (i : Instr) (S : List Value) : Option (Option Value) := match i, S with
  | .return_, [] => (match pm_ret T k with
    | none => some none
    | _ => none)
  | .ireturn, [.int v] => (match pm_ret T k with
    | some .int => some (some (.int v))
    | some .boolean => if v = 0 ∨ v = 1 then some (some (.int v)) else none
    | _ => none)
  | .lreturn, [.long v] => (match pm_ret T k with
    | some .long => some (some (.long v))
    | _ => none)
  | _, _ => none
abbrev pm_Rs : Type := Option Value × pm_H × Nat × Nat
/-- one step in method k; 'go' runs a callee -/
def pm_step (T : pm_Tab) (go : Nat → Nat → Nat → List Value → pm_H → Nat → Nat → Option pm_Rs) (fr lo k : Nat) (st : pm_St) : Option pm_St := match pm_ins T k st.1 with
  | none => none
  | some (i, len) => if pm_lenOk i len = true then (match pm_callee T k i with
    | some (w, t) => if pm_na T t ≤ st.2.2.1.length ∧ pm_rcv T w t (st.2.2.1.take (pm_na T t)).reverse st.2.2.2.1 st.2.2.2.2.1 = true ∧ pm_sum (st.2.2.1.drop (pm_na T t)) ≤ 8 ∧ 1 ≤ fr ∧ 19 + pm_max T t ≤ lo ∧ (pm_args (st.2.2.1.take (pm_na T t)).reverse).length ≤ pm_max T t then (match go (fr - 1) (lo - (19 + pm_max T t)) t (st.2.2.1.take (pm_na T t)).reverse st.2.2.2.1 st.2.2.2.2.1 st.2.2.2.2.2 with
      | some (rv, h1, sz1, sl1) => some (st.1 + 3, st.2.1, rv.toList ++ st.2.2.1.drop (pm_na T t), h1, sz1, sl1)
      | none => none) else none
    | none => pm_simple T fr lo k i st.1 st.2.1 st.2.2.1 st.2.2.2.1 st.2.2.2.2.1 st.2.2.2.2.2) else none
/-- does the step at st end the method: its answer -/
def pm_end (T : pm_Tab) (k : Nat) (st : pm_St) : Option pm_Rs := match pm_ins T k st.1 with
  | none => none
  | some (i, len) => if pm_lenOk i len = true then (match pm_rets T k i st.2.2.1 with
    | some rv => some (rv, st.2.2.2)
    | none => none) else none
/-- n steps at most -/
def pm_run (T : pm_Tab) : Nat → Nat → Nat → Nat → pm_St → Option pm_Rs
  | 0, _, _, _, _ => none
  | n + 1, fr, lo, k, st => match pm_end T k st with
    | some r => some r
    | none => match pm_step T (fun fr lo t as h sz sl => pm_run T n fr lo t (0, pm_l0 as (pm_max T t), [], h, sz, sl)) fr lo k st with
      | some st' => pm_run T n fr lo k st'
      | none => none
end MG06strnx1
section MG06strnx2
/-! the pure machine's cells and locals as the kit's worlds: cell i lies at b + i -/
/-- aC: the classes of arrays; from 1000 on, the addresses of the cells outside -/
def pm_tr (aC : Nat → ClassId) (b : Nat) (v : Value) : Value := match v with
  | .ref a => .ref (b + a)
  | .retAddr a => .ref (aC (1000 + a))
  | v => v
def pm_trA (b : Nat) (a : vp_A) : vp_A := match a with
  | (n, .inr (.inr (.inr (.inr f)))) => (n, .inr (.inr (.inr (.inr (fun j => (f j).map (fun x => b + x))))))
  | a => a
def pm_trE (aC : Nat → ClassId) (b : Nat) (e : pm_E) : va_E := match e with
  | .inl a => .inl (aC a.1, pm_trA b a.2)
  | .inr o => .inr (o.1, o.2.map (pm_tr aC b))
def pm_w (aC : Nat → ClassId) (b : Nat) (h : pm_H) (sz : Nat) : va_W := (List.range sz).map (fun i => (b + i, pm_trE aC b (h i)))
theorem pm_w_len (aC : Nat → ClassId) (b : Nat) (h : pm_H) (sz : Nat) : (pm_w aC b h sz).length = sz := by simp [pm_w]
theorem pm_w_get {aC : Nat → ClassId} {b : Nat} {h : pm_H} {sz i : Nat} (hi : i < sz) : (pm_w aC b h sz)[i]? = some (b + i, pm_trE aC b (h i)) := by simp [pm_w, hi]
theorem pm_w_at {aC : Nat → ClassId} {b : Nat} {h : pm_H} {sz i : Nat} {q : Nat × va_E} (hq : (pm_w aC b h sz)[i]? = some q) : i < sz ∧ q = (b + i, pm_trE aC b (h i)) := by
  have hl : i < (pm_w aC b h sz).length := (List.getElem?_eq_some_iff.mp hq).1
  rw [pm_w_len] at hl
  rw [pm_w_get hl] at hq
  exact ⟨hl, (Option.some.inj hq).symm⟩
theorem pm_w_cong {aC : Nat → ClassId} {b : Nat} {h h' : pm_H} {sz : Nat} (e : ∀ i, i < sz → h i = h' i) : pm_w aC b h sz = pm_w aC b h' sz := by
  unfold pm_w
  exact List.map_congr_left (fun i hi => by rw [e i (List.mem_range.mp hi)])
theorem pm_w_set {aC : Nat → ClassId} {b : Nat} {h : pm_H} {sz a : Nat} {e : pm_E} {e' : va_E} (he : e' = pm_trE aC b e) : (pm_w aC b h sz).set a (b + a, e') = pm_w aC b (va_up h a e) sz := by
  subst he
  apply List.ext_getElem?
  intro i
  rw [List.getElem?_set, pm_w_len]
  by_cases hi : i < sz
  · rw [pm_w_get hi, pm_w_get hi]
    by_cases ha : a = i
    · subst ha
      simp [va_up, hi]
    · simp [va_up, ha, Ne.symm ha]
  · have h1 : (pm_w aC b h sz)[i]? = none := List.getElem?_eq_none (by rw [pm_w_len]; omega)
    have h2 : (pm_w aC b (va_up h a e) sz)[i]? = none := List.getElem?_eq_none (by rw [pm_w_len]; omega)
    rw [h1, h2]
    by_cases ha : a = i
    · subst ha; simp [hi]
    · simp [ha]
theorem pm_w_push {aC : Nat → ClassId} {b : Nat} {h : pm_H} {sz : Nat} {e : pm_E} {e' : va_E} (he : e' = pm_trE aC b e) : pm_w aC b h sz ++ [(b + sz, e')] = pm_w aC b (va_up h sz e) (sz + 1) := by
  subst he
  unfold pm_w
  rw [List.range_succ, List.map_append]
  congr 1
  · exact List.map_congr_left (fun i hi => by
      have := List.mem_range.mp hi
      simp [va_up, Nat.ne_of_lt this])
  · simp [va_up]
theorem pm_w_D (aC : Nat → ClassId) (b : Nat) (h : pm_H) (sz : Nat) : va_D (fun q => b ≤ q) (pm_w aC b h sz) := by
  refine ⟨fun i j p q hp hq e => ?_, fun k q hq => ?_⟩
  · obtain ⟨-, rfl⟩ := pm_w_at hp
    obtain ⟨-, rfl⟩ := pm_w_at hq
    dsimp only at e
    omega
  · obtain ⟨-, rfl⟩ := pm_w_at hq
    exact Nat.le_add_right b k
theorem pm_cat (aC : Nat → ClassId) (b : Nat) (v : Value) : (pm_tr aC b v).category = v.category := by cases v <;> rfl
theorem pm_sum_tr (aC : Nat → ClassId) (b : Nat) (S : List Value) : ((S.map (pm_tr aC b)).map fun v => v.category).sum = pm_sum S := by
  unfold pm_sum
  rw [List.map_map]
  congr 1
  exact List.map_congr_left (fun v _ => pm_cat aC b v)
/-! locals -/
def pm_loc (aC : Nat → ClassId) (b : Nat) (ls : Array Slot) (n : Nat) (L : pm_L) : Prop := ls.size = n ∧ lv_wf ls ∧ ∀ i v, pm_get L i = some v → ls[i]? = some (.val (pm_tr aC b v))
def pm_ll (aC : Nat → ClassId) (b : Nat) (L : pm_L) : List (Nat × Value) := (List.range L.length).filterMap (fun i => (pm_get L i).map (fun v => (i, pm_tr aC b v)))
theorem pm_get_lt {L : pm_L} {i : Nat} {v : Value} (h : pm_get L i = some v) : i < L.length := by
  unfold pm_get at h
  rcases Nat.lt_or_ge i L.length with q | q
  · exact q
  · rw [List.getElem?_eq_none q] at h
    cases h
theorem pm_ll_mem {aC : Nat → ClassId} {b : Nat} {L : pm_L} {i : Nat} {v : Value} (h : pm_get L i = some v) : (i, pm_tr aC b v) ∈ pm_ll aC b L := by
  unfold pm_ll
  exact List.mem_filterMap.mpr ⟨i, List.mem_range.mpr (pm_get_lt h), by rw [h]; rfl⟩
theorem pm_ll_of {aC : Nat → ClassId} {b : Nat} {L : pm_L} {q : Nat × Value} (h : q ∈ pm_ll aC b L) : ∃ v, pm_get L q.1 = some v ∧ q.2 = pm_tr aC b v := by
  unfold pm_ll at h
  obtain ⟨i, -, hi⟩ := List.mem_filterMap.mp h
  cases hg : pm_get L i with
  | none => rw [hg] at hi; cases hi
  | some v => rw [hg] at hi; cases hi; exact ⟨v, hg, rfl⟩
theorem pm_loc.has {aC : Nat → ClassId} {b : Nat} {ls : Array Slot} {n : Nat} {L : pm_L} (h : pm_loc aC b ls n L) : lv_has ls n (pm_ll aC b L) := by
  refine ⟨h.1, h.2.1, fun q hq => ?_⟩
  obtain ⟨v, h1, h2⟩ := pm_ll_of hq
  rw [h2]
  exact h.2.2 _ _ h1
theorem pm_get_set {L : pm_L} {i j : Nat} {o : Option Value} {w : Value} (h : pm_get (L.set i o) j = some w) : (j = i ∧ o = some w) ∨ (j ≠ i ∧ pm_get L j = some w) := by
  unfold pm_get at h ⊢
  rw [List.getElem?_set] at h
  by_cases e : i = j
  · subst e
    rw [if_pos rfl] at h
    by_cases hl : i < L.length
    · rw [if_pos hl] at h
      cases o with
      | none => cases h
      | some x => exact Or.inl ⟨rfl, h⟩
    · rw [if_neg hl] at h; cases h
  · rw [if_neg e] at h
    exact Or.inr ⟨Ne.symm e, h⟩
theorem pm_get_cut {L : pm_L} {i j : Nat} {w : Value} (h : pm_get (pm_cut L i) j = some w) : pm_get L j = some w ∧ ¬ (j + 1 = i ∧ w.category = 2) := by
  unfold pm_cut at h
  cases i with
  | zero => exact ⟨h, fun q => by omega⟩
  | succ i =>
    dsimp only at h
    by_cases hc : pm_cat2 L i = true
    · rw [if_pos hc] at h
      rcases pm_get_set h with ⟨-, h2⟩ | ⟨h1, h2⟩
      · cases h2
      · exact ⟨h2, fun q => h1 (by omega)⟩
    · rw [if_neg hc] at h
      refine ⟨h, fun q => hc ?_⟩
      have e : j = i := by omega
      subst e
      unfold pm_cat2
      rw [h]
      simp [q.2]
theorem pm_get_st1 {L : pm_L} {i j : Nat} {v w : Value} (h : pm_get (pm_st1 L i v) j = some w) : (j = i ∧ w = v) ∨ (j ≠ i ∧ pm_get L j = some w ∧ ¬ (j + 1 = i ∧ w.category = 2)) := by
  rcases pm_get_set h with ⟨h1, h2⟩ | ⟨h1, h2⟩
  · exact Or.inl ⟨h1, (Option.some.inj h2).symm⟩
  · exact Or.inr ⟨h1, pm_get_cut h2⟩
theorem pm_get_st2 {L : pm_L} {i j : Nat} {v w : Value} (h : pm_get (pm_st2 L i v) j = some w) : (j = i ∧ w = v) ∨ (j ≠ i ∧ j ≠ i + 1 ∧ pm_get L j = some w ∧ ¬ (j + 1 = i ∧ w.category = 2)) := by
  rcases pm_get_set h with ⟨-, h2⟩ | ⟨h0, h2⟩
  · cases h2
  · rcases pm_get_st1 (L := L) (i := i) (v := v) h2 with ⟨h1, h3⟩ | ⟨h1, h3, h4⟩
    · exact Or.inl ⟨h1, h3⟩
    · exact Or.inr ⟨h1, h0, h3, h4⟩
theorem pm_loc.st1 {aC : Nat → ClassId} {b : Nat} {ls : Array Slot} {n i : Nat} {L : pm_L} {v : Value} (h : lv_has ls n ((i, pm_tr aC b v) :: (pm_ll aC b L).filter (fun q => !(q.1 == i) && !(q.1 + 1 == i && q.2.category == 2)))) : pm_loc aC b ls n (pm_st1 L i v) := by
  refine ⟨h.1, h.2.1, fun j w hj => ?_⟩
  rcases pm_get_st1 hj with ⟨rfl, rfl⟩ | ⟨h1, h2, h3⟩
  · exact h.2.2 _ List.mem_cons_self
  · refine h.2.2 (j, pm_tr aC b w) (List.mem_cons_of_mem _ (List.mem_filter.mpr ⟨pm_ll_mem h2, ?_⟩))
    rw [pm_cat]
    simp only [Bool.and_eq_true, Bool.not_eq_true', beq_eq_false_iff_ne, ne_eq, Bool.and_eq_false_iff]
    refine ⟨h1, ?_⟩
    by_cases e : j + 1 = i
    · exact Or.inr (fun q => h3 ⟨e, q⟩)
    · exact Or.inl e
theorem pm_loc.st2 {aC : Nat → ClassId} {b : Nat} {ls : Array Slot} {n i : Nat} {L : pm_L} {v : Value} (h : lv_has ls n ((i, pm_tr aC b v) :: (pm_ll aC b L).filter (fun q => !(q.1 == i) && (!(q.1 == i + 1) && !(q.1 + 1 == i && q.2.category == 2))))) : pm_loc aC b ls n (pm_st2 L i v) := by
  refine ⟨h.1, h.2.1, fun j w hj => ?_⟩
  rcases pm_get_st2 hj with ⟨rfl, rfl⟩ | ⟨h1, h0, h2, h3⟩
  · exact h.2.2 _ List.mem_cons_self
  · refine h.2.2 (j, pm_tr aC b w) (List.mem_cons_of_mem _ (List.mem_filter.mpr ⟨pm_ll_mem h2, ?_⟩))
    rw [pm_cat]
    simp only [Bool.and_eq_true, Bool.not_eq_true', beq_eq_false_iff_ne, ne_eq, Bool.and_eq_false_iff]
    refine ⟨h1, h0, ?_⟩
    by_cases e : j + 1 = i
    · exact Or.inr (fun q => h3 ⟨e, q⟩)
    · exact Or.inl e
theorem pm_args_mem (aC : Nat → ClassId) (b : Nat) : ∀ (vs : List Value) (o i : Nat) (v : Value), pm_get (pm_args vs) i = some v → (o + i, pm_tr aC b v) ∈ lv_args o (vs.map (pm_tr aC b))
  | [], o, i, v, h => by simp [pm_args, pm_get] at h
  | x :: xs, o, i, v, h => by
    unfold pm_args at h
    rw [List.map_cons]
    unfold lv_args
    by_cases hc : x.category = 2
    · rw [if_pos hc] at h
      rw [pm_cat, if_pos hc]
      match i, h with
      | 0, h => cases (Option.some.inj h : x = v); exact List.mem_cons_self
      | 1, h => simp [pm_get] at h
      | i + 2, h =>
        have := pm_args_mem aC b xs (o + 2) i v h
        rw [show o + (i + 2) = o + 2 + i by omega]
        exact List.mem_cons_of_mem _ this
    · rw [if_neg hc] at h
      rw [pm_cat, if_neg hc]
      match i, h with
      | 0, h => cases (Option.some.inj h : x = v); exact List.mem_cons_self
      | i + 1, h =>
        have := pm_args_mem aC b xs (o + 1) i v h
        rw [show o + (i + 1) = o + 1 + i by omega]
        exact List.mem_cons_of_mem _ this
theorem pm_sl_len (aC : Nat → ClassId) (b : Nat) : ∀ vs : List Value, (lg_sl (vs.map (pm_tr aC b))).length = (pm_args vs).length
  | [] => rfl
  | x :: xs => by
    have ih := pm_sl_len aC b xs
    unfold lg_sl at ih
    unfold lg_sl pm_args
    rw [List.map_cons, List.flatMap_cons, List.length_append, pm_cat, ih]
    by_cases hc : x.category = 2
    · simp [hc]; omega
    · simp [hc]; omega
theorem pm_l0_loc (aC : Nat → ClassId) (b : Nat) (vs : List Value) {n : Nat} (hn : (pm_args vs).length ≤ n) : pm_loc aC b ((lg_sl (vs.map (pm_tr aC b)) ++ List.replicate (n - (lg_sl (vs.map (pm_tr aC b))).length) Slot.unset).toArray) n (pm_l0 vs n) := by
  have h := lv_entry (vs.map (pm_tr aC b)) (n := n) (by rw [pm_sl_len]; exact hn)
  refine ⟨h.1, h.2.1, fun i v hi => ?_⟩
  have h2 : pm_get (pm_args vs) i = some v := by
    unfold pm_l0 pm_get at hi
    unfold pm_get
    by_cases hl : i < (pm_args vs).length
    · rw [List.getElem?_append_left hl] at hi
      exact hi
    · rw [List.getElem?_append_right (by omega), List.getElem?_replicate] at hi
      by_cases hq : i - (pm_args vs).length < n - (pm_args vs).length
      · rw [if_pos hq] at hi; cases hi
      · rw [if_neg hq] at hi; cases hi
  have h3 := pm_args_mem aC b vs 0 i v h2
  rw [Nat.zero_add] at h3
  exact h.2.2 _ h3
end MG06strnx2
section MG06strnx3
/-! what the tables must say, and the soundness of one step -/
def pm_kindOk (t : Nat) (ty : FieldType) : Prop := (t = 0 ∧ ty = .int) ∨ (t = 1 ∧ ty = .long) ∨ (t = 2 ∧ ∀ a : Nat, narrow ty (.ref a) = .ref a ∧ fits ty (.ref a) = true) ∨ (t = 3 ∧ ty = .boolean)
def pm_okF (T : pm_Tab) (G : List Cond) : Prop := ∀ o j ci f t, pm_fld T o j = some (ci, f, t) → ∃ (C : String) (F : u_T) (N : Nat) (ty : Nat → FieldType), (pm_cl T)[ci]? = some (C, F, N) ∧ f < N ∧ (F f).1 = C ∧ (∀ w ∈ u_ws C F N, w ∈ G) ∧ Cond.fieldLink (pm_own T o) j C (F f).2.1 (F f).2.2.1 ∈ G ∧ (∀ a, a < N → ∀ b, b < N → a ≠ b → (F a).2.1 ≠ (F b).2.1) ∧ (∀ k, k < N → parseFieldDescriptor (F k).2.2.1 = some (ty k)) ∧ pm_kindOk (t % 10) (ty f) ∧ (t < 10 → (F f).2.2.2 = false) ∧ (10 ≤ t → (F f).2.2.2 = true) ∧ (10 ≤ t → t < 20 → pm_own T o = C)
def pm_okM (T : pm_Tab) (G : List Cond) (t : Nat) : Prop := plainName (pm_y T t).cls = true ∧ pm_own T (pm_o T t) = (pm_y T t).cls ∧ Cond.code (pm_y T t) (pm_code T t) (pm_max T t) (pm_ret T t) ∈ G ∧ Cond.initialized (pm_y T t).cls ∈ G ∧ ((pm_y T t).cls ≠ "java/lang/invoke/MethodHandle" ∧ (pm_y T t).cls ≠ "java/lang/invoke/VarHandle") ∧ (pm_init T t = true → (pm_y T t).name = "<init>")
def pm_pars (T : pm_Tab) (t n : Nat) : Prop := (parseMethodDescriptor (pm_y T t).desc).map (fun d => d.parameters.length) = some n
def pm_okW (T : pm_Tab) (G Ns : List Cond) (o j w t : Nat) : Prop := match w with
  | 0 => pm_okM T G t ∧ Cond.methodLink (pm_own T o) j (pm_y T t) ∈ G ∧ Cond.instanceMethod (pm_y T t) ∈ G ∧ Cond.selects (pm_y T t).cls (pm_y T t) (pm_y T t) ∈ G ∧ (∃ n, pm_na T t = n + 1 ∧ pm_pars T t n) ∧ ∃ F N, (pm_cl T)[pm_ci T t]? = some ((pm_y T t).cls, F, N)
  | 1 => False
  | 2 => pm_okM T G t ∧ Cond.methodLink (pm_own T o) j (pm_y T t) ∈ G ∧ Cond.static (pm_y T t) ∈ G ∧ pm_pars T t (pm_na T t)
  | 3 => pm_okM T G t ∧ (∃ host, Cond.methodLinkNest (pm_own T o) j (pm_y T t) host ∈ Ns) ∧ Cond.static (pm_y T t) ∈ G ∧ pm_pars T t (pm_na T t)
  | 4 => pm_okM T G t ∧ Cond.methodLink (pm_own T o) j (pm_y T t) ∈ G ∧ Cond.instanceMethod (pm_y T t) ∈ G ∧ (pm_y T t).name = "<init>" ∧ pm_ret T t = none ∧ ∃ n, pm_na T t = n + 1 ∧ pm_pars T t n
  | 5 => pm_okM T G t ∧ (∃ host, Cond.methodLinkNest (pm_own T o) j (pm_y T t) host ∈ Ns) ∧ Cond.instanceMethod (pm_y T t) ∈ G ∧ (pm_y T t).name = "<init>" ∧ pm_ret T t = none ∧ ∃ n, pm_na T t = n + 1 ∧ pm_pars T t n
  | 6 => Cond.methodLink (pm_own T o) j Lib.objectInit ∈ G ∧ Cond.instanceMethod Lib.objectInit ∈ G ∧ Cond.code Lib.objectInit ⟨#[0xb1]⟩ 1 none ∈ G
  | 7 => Cond.methodLink (pm_own T o) j Lib.Math.min.name ∈ G ∧ Cond.static Lib.Math.min.name ∈ G ∧ Cond.initialized "java/lang/Math" ∈ G ∧ Cond.code Lib.Math.min.name Lib.Math.min.code 2 (some .int) ∈ G
  | 8 => Cond.methodLink (pm_own T o) j Lib.Math.max.name ∈ G ∧ Cond.static Lib.Math.max.name ∈ G ∧ Cond.initialized "java/lang/Math" ∈ G ∧ Cond.code Lib.Math.max.name Lib.Math.max.code 2 (some .int) ∈ G
  | 9 => Cond.methodLink (pm_own T o) j arraycopyName ∈ G ∧ Cond.native arraycopyName ∈ G ∧ Cond.static arraycopyName ∈ G ∧ Cond.initialized "java/lang/System" ∈ G
  | 10 => Cond.methodLink (pm_own T o) j st_yL ∈ G ∧ ∀ w ∈ st_ws, w ∈ G
  | 11 => Cond.methodLink (pm_own T o) j st_yA ∈ G ∧ ∀ w ∈ st_ws, w ∈ G
  | _ => False
def pm_okC (T : pm_Tab) (G Ns : List Cond) : Prop := ∀ o j q, pm_clk T o j = some q → (q < 1000 → ∃ (C : String) (F : u_T) (N : Nat) (ty : Nat → FieldType), (pm_cl T)[q]? = some (C, F, N) ∧ (∀ w ∈ u_ws C F N, w ∈ G) ∧ (∀ k, k < N → parseFieldDescriptor (F k).2.2.1 = some (ty k)) ∧ Cond.classLink (pm_own T o) j C ∈ G ∧ Cond.instantiable C N ∈ G ∧ Cond.initialized C ∈ G ∧ (pm_df T q).length = N ∧ (∀ j, j < N → defaultValue (ty j) = vp_V (pm_df T q) j) ∧ ∀ (aC : Nat → ClassId) (b : Nat), (pm_df T q).map (pm_tr aC b) = pm_df T q) ∧ (1000 ≤ q → ∀ o', o = 100 + o' → ∃ C : String, (pm_ty T)[q - 1000]? = some (.object C) ∧ Cond.classLink (pm_own T o') j C ∈ G ∧ Cond.arrayOver (.object C) ∈ Ns)
def pm_ok (T : pm_Tab) (G Ns : List Cond) : Prop :=
  (∀ k pc i len, pm_ins T k pc = some (i, len) → decode (pm_code T k) pc = .ok (i, len)) ∧
  (∀ w ∈ G, goodWord w = true) ∧
  (∀ w ∈ Ns, (∀ (s U : State), s.vm = U.vm → va_Nw w s → va_Nw w U) ∧ ∀ (s U : State), s.WarmedH U.vm → va_Nw w s → va_Nw w U) ∧
  pm_okF T G ∧ (∀ o j w t, pm_mlk T o j = some (w, t) → pm_okW T G Ns o j w t) ∧ pm_okC T G Ns ∧
  (∀ ty, pm_tysAt T ty ≠ none → Cond.arrayClass ty ∈ G ∨ ∃ C, ty = .object C) ∧
  (∀ o j v, pm_con T o j = some v → Jvm.Cond.constant (pm_own T o) j v ∈ G) ∧ (∀ o j v, pm_conL T o j = some v → Jvm.Cond.constantLong (pm_own T o) j v ∈ G)
def pm_tys (T : pm_Tab) (aC : Nat → ClassId) : List (ClassId × FieldType) := (List.range (pm_ty T).length).map (fun i => (aC i, (pm_ty T).getD i .int))
theorem pm_tys_get {T : pm_Tab} {aC : Nat → ClassId} {kd : Nat} {ty : FieldType} (h : (pm_ty T)[kd]? = some ty) : (pm_tys T aC)[kd]? = some (aC kd, ty) := by
  have hl : kd < (pm_ty T).length := (List.getElem?_eq_some_iff.mp h).1
  have e := (List.getElem?_eq_some_iff.mp h).2
  simp [pm_tys, hl, List.getD, e]
theorem pm_tysAt_get {T : pm_Tab} {kd : Nat} {ty : FieldType} (h : pm_tysAt T ty = some kd) : (pm_ty T)[kd]? = some ty := by
  unfold pm_tysAt at h
  obtain ⟨hl, h1, -⟩ := List.findIdx?_eq_some_iff_getElem.mp h
  rw [List.getElem?_eq_getElem hl]
  exact congrArg some (eq_of_beq h1)
/-- the String constants: each an object of String with its bytes, outside of A -/
def pm_ZS (aC : Nat → ClassId) (adV : Nat → Nat) (A : Nat → Prop) (U : State) (H : Heap) : Prop := ∀ i : Nat, i < 5 → va_O "java/lang/String" (aC (1000 + i)) A U H ∧ va_OF "java/lang/String" "coder" "B" (.int 0) (aC (1000 + i)) A U H ∧ va_OF "java/lang/String" "value" "[B" (.ref (adV i)) (aC (1000 + i)) A U H ∧ va_T .byte (adV i) (st_tx i).length (fun j => .int ((st_tx i).getD j 0)) A U H
def pm_Z (T : pm_Tab) (aC : Nat → ClassId) (b : Nat) (U : State) : Prop := (∀ o j i, st_str o j = some i → ∃ tx, vk_R (pm_own T o) j tx (aC (1000 + i)) U) ∧ va_Z "java/lang/String" "COMPACT_STRINGS" "Z" (.int 1) (fun q => b ≤ q) U U.heap ∧ (∃ v, va_Z "jdk/internal/util/Preconditions" "SIOOBE_FORMATTER" "Ljava/util/function/BiFunction;" v (fun q => b ≤ q) U U.heap ∧ v.category = 1) ∧ ∃ adV, pm_ZS aC adV (fun q => b ≤ q) U U.heap
theorem pm_Z.same {T : pm_Tab} {aC : Nat → ClassId} {b : Nat} {u U : State} (hv : U.vm = u.vm) (hh : U.heap = u.heap) (h : pm_Z T aC b u) : pm_Z T aC b U := by
  have ha : u.vm.Alike U.vm := by rw [hv]; exact Vm.Alike.refl u.vm
  obtain ⟨h1, h2, ⟨v, h3, h4⟩, adV, h5⟩ := h
  refine ⟨fun o j i e => ?_, ?_, ⟨v, ?_, h4⟩, adV, fun i hi => ?_⟩
  · obtain ⟨tx, q⟩ := h1 o j i e
    exact ⟨tx, vk_R.same hv q⟩
  · rw [hh]; exact va_Z.moved ha h2
  · rw [hh]; exact va_Z.moved ha h3
  · rw [hh]
    obtain ⟨q1, q2, q3, q4⟩ := h5 i hi
    exact ⟨va_O.moved ha q1, va_OF.moved ha q2, va_OF.moved ha q3, va_T.moved ha q4⟩
theorem pm_Z.warm {T : pm_Tab} {aC : Nat → ClassId} {b : Nat} {s U : State} {locs : List Loc} (hW : s.WarmedH U.vm) (hS : va_S (fun q => b ≤ q) s.heap U.heap locs) (h : pm_Z T aC b s) : pm_Z T aC b U := by
  have ha : s.vm.Alike U.vm := hW.alike
  obtain ⟨h1, h2, ⟨v, h3, h4⟩, adV, h5⟩ := h
  refine ⟨fun o j i e => ?_, ?_, ⟨v, ?_, h4⟩, adV, fun i hi => ?_⟩
  · obtain ⟨tx, q⟩ := h1 o j i e
    exact ⟨tx, vk_R.warm hW q⟩
  · exact va_Z.moved ha (h2.kept hS.2.1)
  · exact va_Z.moved ha (h3.kept hS.2.1)
  · obtain ⟨q1, q2, q3, q4⟩ := h5 i hi
    exact ⟨va_O.moved ha (q1.kept hS.2.1), va_OF.moved ha (q2.kept hS.2.1), va_OF.moved ha (q3.kept hS.2.1), va_T.moved ha (q4.kept hS.2.1)⟩
def pm_K (T : pm_Tab) (Ns : List Cond) (D : va_G) (aC : Nat → ClassId) (b : Nat) (U : State) : Prop := va_K D (pm_cl T) (pm_tys T aC) U ∧ (∀ w ∈ Ns, va_Nw w U) ∧ pm_Z T aC b U
/-- the method k is being walked -/
def pm_C (T : pm_Tab) (G Ns : List Cond) (D : va_G) (aC : Nat → ClassId) (b k : Nat) (p : Program) (s : State) (m : MethodId) (args : Array Value) (meth : Method) (c : Code) : Prop :=
  p.tables.exec = Jvm.exec ∧ c.code = pm_code T k ∧ c.maxLocals = pm_max T k ∧ s.vm.findClass (pm_own T (pm_o T k)) = some m.cls ∧ (∀ w ∈ G, w.before args s = true) ∧ pm_K T Ns D aC b s ∧ (pm_init T k = true → meth.name = "<init>")
section PMV
variable {p : Program} {l : Launch} {e : Env} {R : Room} {s : State} {m : MethodId} {args : Array Value} {below : List Frame} {meth : Method} {c : Code} {H : Heap} {locs : List Loc} {cells slots : Nat} {Q : State → Prop}
/-- the heap's size, by the walk's own account -/
theorem pm_sized {g : JFrame} (k : H.size ≤ s.heap.size + cells → W p l e R s m args below meth c H locs cells slots Q g) : W p l e R s m args below meth c H locs cells slots Q g := fun T hT X => k (by rw [← hT]; exact X.heapSize) T hT X
/-- from the pure state st the real machine comes to Q -/
def pm_V (p : Program) (l : Launch) (e : Env) (R : Room) (s : State) (m : MethodId) (args : Array Value) (below : List Frame) (meth : Method) (c : Code) (Q : State → Prop) (T : pm_Tab) (D : va_G) (aC : Nat → ClassId) (b k sz0 sl0 : Nat) (st : pm_St) : Prop :=
  ∀ (H : Heap) (locs : List Loc) (ls : Array Slot), va_P D (pm_cl T) (pm_w aC b st.2.2.2.1 st.2.2.2.2.1) H → va_S (fun q => b ≤ q) s.heap H locs → pm_loc aC b ls (pm_max T k) st.2.1 → W p l e R s m args below meth c H locs (st.2.2.2.2.1 - sz0) (st.2.2.2.2.2 - sl0) Q (F0 m st.1 ls (st.2.2.1.map (pm_tr aC b)))
variable {T : pm_Tab} {G Ns : List Cond} {D : va_G} {aC : Nat → ClassId} {b k fr lo pc sz sl sz0 sl0 : Nat} {L : pm_L} {S : List Value} {h : pm_H} {st' : pm_St}
theorem pm_bi_inv {f : Int32 → Int32 → Int32} (hh : pm_bi f pc L S h sz sl = some st') : ∃ x y r, S = .int y :: .int x :: r ∧ st' = (pc + 1, L, .int (f x y) :: r, h, sz, sl) := by
  unfold pm_bi at hh
  split at hh
  · cases hh; exact ⟨_, _, _, rfl, rfl⟩
  · cases hh
theorem pm_bd_inv {f : Int32 → Int32 → Int32} (hh : pm_bd f pc L S h sz sl = some st') : ∃ x y r, S = .int y :: .int x :: r ∧ ¬ y = 0 ∧ st' = (pc + 1, L, .int (f x y) :: r, h, sz, sl) := by
  unfold pm_bd at hh
  split at hh
  · split at hh
    · cases hh
    · rename_i hy; cases hh; exact ⟨_, _, _, rfl, hy, rfl⟩
  · cases hh
theorem pm_bl_inv {f : Int64 → Int64 → Int64} (hh : pm_bl f pc L S h sz sl = some st') : ∃ x y r, S = .long y :: .long x :: r ∧ st' = (pc + 1, L, .long (f x y) :: r, h, sz, sl) := by
  unfold pm_bl at hh
  split at hh
  · cases hh; exact ⟨_, _, _, rfl, rfl⟩
  · cases hh
theorem pm_bdL_inv {f : Int64 → Int64 → Int64} (hh : pm_bdL f pc L S h sz sl = some st') : ∃ x y r, S = .long y :: .long x :: r ∧ ¬ y = 0 ∧ st' = (pc + 1, L, .long (f x y) :: r, h, sz, sl) := by
  unfold pm_bdL at hh
  split at hh
  · split at hh
    · cases hh
    · rename_i hy; cases hh; exact ⟨_, _, _, rfl, hy, rfl⟩
  · cases hh
theorem pm_ui_inv {f : Int32 → Value} (hh : pm_ui f pc L S h sz sl = some st') : ∃ x r, S = .int x :: r ∧ st' = (pc + 1, L, f x :: r, h, sz, sl) := by
  unfold pm_ui at hh
  split at hh
  · cases hh; exact ⟨_, _, rfl, rfl⟩
  · cases hh
theorem pm_lo_inv {t n i : Nat} (hh : pm_lo t n pc i L S h sz sl = some st') : ∃ v, pm_get L i = some v ∧ pm_isT t v = true ∧ st' = (pc + n, L, v :: S, h, sz, sl) := by
  unfold pm_lo pm_ld at hh
  cases hg : pm_get L i with
  | none => rw [hg] at hh; cases hh
  | some v =>
    rw [hg] at hh
    dsimp only at hh
    by_cases ht : pm_isT t v = true
    · rw [if_pos ht] at hh; cases hh; exact ⟨v, rfl, ht, rfl⟩
    · rw [if_neg ht] at hh; cases hh
theorem pm_isT_0 {v : Value} (hh : pm_isT 0 v = true) : ∃ x, v = .int x := by cases v <;> first | exact ⟨_, rfl⟩ | cases hh
theorem pm_isT_1 {v : Value} (hh : pm_isT 1 v = true) : ∃ x, v = .long x := by cases v <;> first | exact ⟨_, rfl⟩ | cases hh
theorem pm_isT_2 {v : Value} (hh : pm_isT 2 v = true) : ∃ x, v = .ref x ∨ v = .retAddr x := by cases v <;> first | exact ⟨_, Or.inl rfl⟩ | exact ⟨_, Or.inr rfl⟩ | cases hh
theorem pm_so_inv {t n mx i : Nat} (hh : pm_so t n mx pc i L S h sz sl = some st') : ∃ v r, S = v :: r ∧ pm_isT t v = true ∧ i < mx ∧ st' = (pc + n, pm_st1 L i v, r, h, sz, sl) := by
  unfold pm_so at hh
  split at hh
  · split at hh
    · rename_i hc; cases hh; exact ⟨_, _, rfl, hc.1, hc.2, rfl⟩
    · cases hh
  · cases hh
theorem pm_sL_inv {n mx i : Nat} (hh : pm_sL n mx pc i L S h sz sl = some st') : ∃ x r, S = .long x :: r ∧ i + 1 < mx ∧ st' = (pc + n, pm_st2 L i (.long x), r, h, sz, sl) := by
  unfold pm_sL at hh
  split at hh
  · split at hh
    · rename_i hc; cases hh; exact ⟨_, _, rfl, hc, rfl⟩
    · cases hh
  · cases hh
theorem pm_jp_inv {off : Int} (hh : pm_jp pc off L S h sz sl = some st') : ∃ t : Nat, (pc : Int) + off = (t : Int) ∧ st' = (t, L, S, h, sz, sl) := by
  unfold pm_jp pm_tgt at hh
  by_cases hp : 0 ≤ (pc : Int) + off
  · rw [if_pos hp] at hh; cases hh; exact ⟨_, (Int.toNat_of_nonneg hp).symm, rfl⟩
  · rw [if_neg hp] at hh; cases hh
theorem pm_br_inv {x : Bool} {off : Int} (hh : pm_br x pc off L S h sz sl = some st') : ∃ t : Nat, (pc : Int) + off = (t : Int) ∧ ((x = true ∧ st' = (t, L, S, h, sz, sl)) ∨ (x = false ∧ st' = (pc + 3, L, S, h, sz, sl))) := by
  unfold pm_br pm_tgt at hh
  by_cases hp : 0 ≤ (pc : Int) + off
  · rw [if_pos hp] at hh
    refine ⟨_, (Int.toNat_of_nonneg hp).symm, ?_⟩
    cases x with
    | true => cases hh; exact Or.inl ⟨rfl, rfl⟩
    | false => cases hh; exact Or.inr ⟨rfl, rfl⟩
  · rw [if_neg hp] at hh; cases hh
theorem pm_iar_inv {ty : FieldType} {a kd n : Nat} {f : Nat → Int32} (hh : pm_iar T ty h sz a = some (kd, n, f)) : a < sz ∧ h a = .inl (kd, n, .inl f) ∧ (pm_ty T)[kd]? = some ty := by
  unfold pm_iar at hh
  split at hh
  · rename_i ha
    split at hh
    · rename_i e
      split at hh
      · rename_i hk; cases hh; exact ⟨ha, e, hk⟩
      · cases hh
    · cases hh
  · cases hh
theorem pm_lar_inv {a kd n : Nat} {f : Nat → Int64} (hh : pm_lar T h sz a = some (kd, n, f)) : a < sz ∧ h a = .inl (kd, n, .inr (.inl f)) ∧ (pm_ty T)[kd]? = some .long := by
  unfold pm_lar at hh
  split at hh
  · rename_i ha
    split at hh
    · rename_i e
      split at hh
      · rename_i hk; cases hh; exact ⟨ha, e, hk⟩
      · cases hh
    · cases hh
  · cases hh
theorem pm_qar_inv {a kd n : Nat} {f : Nat → Option Nat} (hh : pm_qar h sz a = some (kd, n, f)) : a < sz ∧ h a = .inl (kd, n, .inr (.inr (.inr (.inr f)))) := by
  unfold pm_qar at hh
  split at hh
  · rename_i ha
    split at hh
    · rename_i e; cases hh; exact ⟨ha, e⟩
    · cases hh
  · cases hh
theorem pm_obj_inv {a : Nat} {o : Nat × List Value} (hh : pm_obj h sz a = some o) : a < sz ∧ h a = .inr o := by
  unfold pm_obj at hh
  split at hh
  · rename_i ha
    split at hh
    · rename_i e; cases hh; exact ⟨ha, e⟩
    · cases hh
  · cases hh
theorem pm_in_of {i : Int32} {n : Nat} (hh : pm_in i n = true) : vp_in i n := by
  have h2 : ¬ (i < 0 ∨ n ≤ i.toNatClampNeg) := of_decide_eq_true hh
  exact h2
theorem pm_cmp_t {cc : Jvm.ClassFile.Cond} {x y : Int32} {P : Prop} [Decidable P] (e : pm_cmp cc x y = decide P) : (pm_cmp cc x y = true → P) ∧ (pm_cmp cc x y = false → ¬ P) := by
  rw [e]
  exact ⟨of_decide_eq_true, of_decide_eq_false⟩
end PMV
end MG06strnx3
section MG06strnx4
/-! one simple instruction -/
section PMS
variable {p : Program} {l : Launch} {e : Env} {R : Room} {s : State} {m : MethodId} {args : Array Value} {below : List Frame} {meth : Method} {c : Code} {Q : State → Prop}
variable {T : pm_Tab} {G Ns : List Cond} {D : va_G} {aC : Nat → ClassId} {b k fr lo pc sz sl sz0 sl0 : Nat} {L : pm_L} {S : List Value} {h : pm_H} {st' : pm_St}
theorem pm_w_P {H : Heap} {a : Nat} (hP : va_P D (pm_cl T) (pm_w aC b h sz) H) (ha : a < sz) {e : pm_E} (he : h a = e) : (pm_w aC b h sz)[a]? = some (b + a, pm_trE aC b e) := by rw [← he]; exact pm_w_get ha
theorem pm_setP {H1 : Heap} {a : Nat} {e : pm_E} {e' : va_E} (hP1 : va_P D (pm_cl T) ((pm_w aC b h sz).set a (b + a, e')) H1) (he : e' = pm_trE aC b e) : va_P D (pm_cl T) (pm_w aC b (va_up h a e) sz) H1 := by
  rw [pm_w_set he] at hP1
  exact hP1
theorem pm_set (f : Nat) (fs : List Value) (v : Value) : (fs.map (pm_tr aC b)).set f (pm_tr aC b v) = (fs.set f v).map (pm_tr aC b) := by rw [List.map_set]
theorem pm_getfield (OK : pm_ok T G Ns) (hC : pm_C T G Ns D aC b k p s m args meth c) {j : Nat} (hd : decode (pm_code T k) pc = .ok (.getfield j, 3)) (hh : pm_gf T k j pc L S h sz sl = some st')
    (kk : pm_V p l e R s m args below meth c Q T D aC b k sz0 sl0 st') : pm_V p l e R s m args below meth c Q T D aC b k sz0 sl0 (pc, L, S, h, sz, sl) := by
  obtain ⟨hx, hb, -, hown, hts, hK, -⟩ := hC
  unfold pm_gf at hh
  split at hh
  case h_2 => cases hh
  case h_1 a r =>
  split at hh
  case h_2 => cases hh
  case h_1 ci fs cj f t e1 e2 =>
  split at hh
  case isFalse => cases hh
  case isTrue hci =>
  subst hci
  split at hh
  case h_2 => cases hh
  case h_1 v hv =>
  cases hh
  obtain ⟨ha, hcell⟩ := pm_obj_inv e1
  obtain ⟨C, F, N, ty, h1, h2, h3, h4, h5, -⟩ := OK.2.2.2.1 _ _ _ _ _ e2
  intro H locs ls hP hS hl
  refine va_get hx hb hts h4 hown hK.1 hP a (pm_w_P hP ha hcell) h1 f h2 (hts _ h5) (fun x hx => by rw [h3] at hx; exact hx) (v := pm_tr aC b v) ?_ hd (kk H locs ls hP hS hl)
  rw [List.getElem?_map, hv]
  rfl
theorem pm_fits_ok {t : Nat} {ty : FieldType} {v : Value} (hk : pm_kindOk t ty) (hf : pm_fits t v = true) : narrow ty (pm_tr aC b v) = pm_tr aC b v ∧ fits ty (pm_tr aC b v) = true := by
  rcases hk with ⟨rfl, rfl⟩ | ⟨rfl, rfl⟩ | ⟨rfl, hr⟩ | ⟨rfl, rfl⟩
  · cases v <;> first | exact ⟨rfl, rfl⟩ | cases hf
  · cases v <;> first | exact ⟨rfl, rfl⟩ | cases hf
  · cases v <;> first | exact hr _ | cases hf
  · cases v with
    | int x =>
      have hx : x = 0 ∨ x = 1 := of_decide_eq_true hf
      rcases hx with rfl | rfl
      · exact ⟨rfl, show fits .boolean (.int 0) = true by decide⟩
      · exact ⟨rfl, show fits .boolean (.int 1) = true by decide⟩
    | _ => cases hf
theorem pm_putfield (OK : pm_ok T G Ns) (hC : pm_C T G Ns D aC b k p s m args meth c) {j : Nat} (hd : decode (pm_code T k) pc = .ok (.putfield j, 3)) (hh : pm_pf T k j pc L S h sz sl = some st')
    (kk : pm_V p l e R s m args below meth c Q T D aC b k sz0 sl0 st') : pm_V p l e R s m args below meth c Q T D aC b k sz0 sl0 (pc, L, S, h, sz, sl) := by
  obtain ⟨hx, hb, -, hown, hts, hK, hin⟩ := hC
  unfold pm_pf at hh
  split at hh
  case h_2 => cases hh
  case h_1 v a r =>
  split at hh
  case h_2 => cases hh
  case h_1 ci fs cj f t e1 e2 =>
  split at hh
  case isFalse => cases hh
  case isTrue hc =>
  cases hh
  obtain ⟨rfl, hf, hfit, hfin⟩ := hc
  obtain ⟨ha, hcell⟩ := pm_obj_inv e1
  obtain ⟨C, F, N, ty, h1, h2, h3, h4, h5, h6, h7, h8, h9, h10, h11⟩ := OK.2.2.2.1 _ _ _ _ _ e2
  intro H locs ls hP hS hl
  obtain ⟨hn, hft⟩ := pm_fits_ok (b := b) h8 hfit
  have fin : ∀ (H1 : Heap) (locs1 : List Loc), va_P D (pm_cl T) ((pm_w aC b h sz).set a (b + a, .inr (cj, (fs.map (pm_tr aC b)).set f (pm_tr aC b v)))) H1 → va_D (fun q => b ≤ q) ((pm_w aC b h sz).set a (b + a, .inr (cj, (fs.map (pm_tr aC b)).set f (pm_tr aC b v)))) → va_S (fun q => b ≤ q) s.heap H1 locs1 → W p l e R s m args below meth c H1 locs1 (sz - sz0) (sl - sl0) Q (F0 m (pc + 3) ls (r.map (pm_tr aC b))) := by
    intro H1 locs1 hP1 _ hS1
    exact kk H1 locs1 ls (pm_setP hP1 (by rw [pm_set]; rfl)) hS1 hl
  by_cases ht : t < 10
  · exact va_put hx hb hts h4 ty h7 h6 hown hK.1 hP (pm_w_D aC b h sz) hS a (pm_w_P hP ha hcell) h1 f h2 (hts _ h5) (fun x hx => by rw [h3] at hx; exact hx) (h9 ht) (h7 f h2) hn hft (by rw [List.length_map]; exact hf) hd fin
  · obtain ⟨ht2, hi⟩ := hfin.resolve_left ht
    exact va_putF hx hb hts h4 ty h7 h6 hown hK.1 hP (pm_w_D aC b h sz) hS a (pm_w_P hP ha hcell) h1 f h2 (hts _ h5) (fun x hx => by rw [h3] at hx; exact hx) (h10 (by omega)) (hin hi) (by rw [h3]; exact (h11 (by omega) ht2).symm) (h7 f h2) hn hft (by rw [List.length_map]; exact hf) hd fin
theorem pm_iald (hC : pm_C T G Ns D aC b k p s m args meth c) {ty : FieldType}
    (row : ∀ (H : Heap) (locs : List Loc) (ls : Array Slot) (a kd n : Nat) (f : Nat → Int32) (i : Int32) (r : List Value), va_P D (pm_cl T) (pm_w aC b h sz) H → (pm_w aC b h sz)[a]? = some (b + a, .inl (aC kd, n, .inl f)) → (pm_tys T aC)[kd]? = some (aC kd, ty) → vp_in i n → W p l e R s m args below meth c H locs (sz - sz0) (sl - sl0) Q (F0 m (pc + 1) ls (.int (f i.toNatClampNeg) :: r)) → W p l e R s m args below meth c H locs (sz - sz0) (sl - sl0) Q (F0 m pc ls (.int i :: .ref (b + a) :: r)))
    (hh : pm_ia T ty pc L S h sz sl = some st') (kk : pm_V p l e R s m args below meth c Q T D aC b k sz0 sl0 st') : pm_V p l e R s m args below meth c Q T D aC b k sz0 sl0 (pc, L, S, h, sz, sl) := by
  unfold pm_ia at hh
  split at hh
  case h_2 => cases hh
  case h_1 i a r =>
  split at hh
  case h_2 => cases hh
  case h_1 kd n f e1 =>
  split at hh
  case isFalse => cases hh
  case isTrue hi =>
  cases hh
  obtain ⟨ha, hcell, hty⟩ := pm_iar_inv e1
  intro H locs ls hP hS hl
  exact row H locs ls a kd n f i (r.map (pm_tr aC b)) hP (pm_w_P hP ha hcell) (pm_tys_get hty) (pm_in_of hi) (kk H locs ls hP hS hl)
theorem pm_iast (hC : pm_C T G Ns D aC b k p s m args meth c) {ty : FieldType} {nr : Int32 → Int32}
    (row : ∀ (H : Heap) (locs : List Loc) (ls : Array Slot) (a kd n : Nat) (f : Nat → Int32) (x i : Int32) (r : List Value), va_P D (pm_cl T) (pm_w aC b h sz) H → va_D (fun q => b ≤ q) (pm_w aC b h sz) → va_S (fun q => b ≤ q) s.heap H locs → (pm_w aC b h sz)[a]? = some (b + a, .inl (aC kd, n, .inl f)) → (pm_tys T aC)[kd]? = some (aC kd, ty) → vp_in i n → (∀ (H1 : Heap) (locs1 : List Loc), va_P D (pm_cl T) ((pm_w aC b h sz).set a (b + a, .inl (aC kd, n, .inl (upd f i.toNatClampNeg (nr x))))) H1 → va_D (fun q => b ≤ q) ((pm_w aC b h sz).set a (b + a, .inl (aC kd, n, .inl (upd f i.toNatClampNeg (nr x))))) → va_S (fun q => b ≤ q) s.heap H1 locs1 → W p l e R s m args below meth c H1 locs1 (sz - sz0) (sl - sl0) Q (F0 m (pc + 1) ls r)) → W p l e R s m args below meth c H locs (sz - sz0) (sl - sl0) Q (F0 m pc ls (.int x :: .int i :: .ref (b + a) :: r)))
    (hh : pm_iS T ty nr pc L S h sz sl = some st') (kk : pm_V p l e R s m args below meth c Q T D aC b k sz0 sl0 st') : pm_V p l e R s m args below meth c Q T D aC b k sz0 sl0 (pc, L, S, h, sz, sl) := by
  unfold pm_iS at hh
  split at hh
  case h_2 => cases hh
  case h_1 x i a r =>
  split at hh
  case h_2 => cases hh
  case h_1 kd n f e1 =>
  split at hh
  case isFalse => cases hh
  case isTrue hi =>
  cases hh
  obtain ⟨ha, hcell, hty⟩ := pm_iar_inv e1
  intro H locs ls hP hS hl
  refine row H locs ls a kd n f x i (r.map (pm_tr aC b)) hP (pm_w_D aC b h sz) hS (pm_w_P hP ha hcell) (pm_tys_get hty) (pm_in_of hi) (fun H1 locs1 hP1 _ hS1 => ?_)
  exact kk H1 locs1 ls (pm_setP hP1 rfl) hS1 hl
theorem pm_lald (hC : pm_C T G Ns D aC b k p s m args meth c) (hd : decode (pm_code T k) pc = .ok (.laload, 1))
    (hh : pm_la T pc L S h sz sl = some st') (kk : pm_V p l e R s m args below meth c Q T D aC b k sz0 sl0 st') : pm_V p l e R s m args below meth c Q T D aC b k sz0 sl0 (pc, L, S, h, sz, sl) := by
  obtain ⟨hx, hb, -, -, -, hK, -⟩ := hC
  unfold pm_la at hh
  split at hh
  case h_2 => cases hh
  case h_1 i a r =>
  split at hh
  case h_2 => cases hh
  case h_1 kd n f e1 =>
  split at hh
  case isFalse => cases hh
  case isTrue hi =>
  cases hh
  obtain ⟨ha, hcell, hty⟩ := pm_lar_inv e1
  intro H locs ls hP hS hl
  exact va_lald hx hb hK.1 hP a kd (pm_w_P hP ha hcell) (pm_tys_get hty) (pm_in_of hi) hd (kk H locs ls hP hS hl)
theorem pm_last (hC : pm_C T G Ns D aC b k p s m args meth c) (hd : decode (pm_code T k) pc = .ok (.lastore, 1))
    (hh : pm_lS T pc L S h sz sl = some st') (kk : pm_V p l e R s m args below meth c Q T D aC b k sz0 sl0 st') : pm_V p l e R s m args below meth c Q T D aC b k sz0 sl0 (pc, L, S, h, sz, sl) := by
  obtain ⟨hx, hb, -, -, -, hK, -⟩ := hC
  unfold pm_lS at hh
  split at hh
  case h_2 => cases hh
  case h_1 x i a r =>
  split at hh
  case h_2 => cases hh
  case h_1 kd n f e1 =>
  split at hh
  case isFalse => cases hh
  case isTrue hi =>
  cases hh
  obtain ⟨ha, hcell, hty⟩ := pm_lar_inv e1
  intro H locs ls hP hS hl
  refine va_last hx hb hK.1 hP (pm_w_D aC b h sz) hS a kd (pm_w_P hP ha hcell) (pm_tys_get hty) (pm_in_of hi) hd (fun H1 locs1 hP1 _ hS1 => ?_)
  exact kk H1 locs1 ls (pm_setP hP1 rfl) hS1 hl
theorem pm_rf (o : Option Nat) : va_rf (o.map (fun x => b + x)) = pm_tr aC b (va_rf o) := by cases o <;> rfl
theorem pm_isObj_ex {t : Option FieldType} (hh : pm_isObj t = true) : ∃ C, t = some (.object C) := by
  unfold pm_isObj at hh
  split at hh
  · exact ⟨_, rfl⟩
  · cases hh
theorem pm_aald (hC : pm_C T G Ns D aC b k p s m args meth c) (hd : decode (pm_code T k) pc = .ok (.aaload, 1))
    (hh : pm_qa T pc L S h sz sl = some st') (kk : pm_V p l e R s m args below meth c Q T D aC b k sz0 sl0 st') : pm_V p l e R s m args below meth c Q T D aC b k sz0 sl0 (pc, L, S, h, sz, sl) := by
  obtain ⟨hx, hb, -, -, -, hK, -⟩ := hC
  unfold pm_qa at hh
  split at hh
  case h_2 => cases hh
  case h_1 i a r =>
  split at hh
  case h_2 => cases hh
  case h_1 kd n f e1 =>
  split at hh
  case isFalse => cases hh
  case isTrue hi =>
  cases hh
  obtain ⟨ha, hcell⟩ := pm_qar_inv e1
  obtain ⟨C, hty⟩ := pm_isObj_ex hi.2
  intro H locs ls hP hS hl
  refine va_aldq hx hb hK.1 hP a kd (pm_w_P hP ha hcell) (pm_tys_get hty) (pm_in_of hi.1) hd ?_
  rw [pm_rf]
  exact kk H locs ls hP hS hl
theorem pm_aast (hC : pm_C T G Ns D aC b k p s m args meth c) (hd : decode (pm_code T k) pc = .ok (.aastore, 1))
    (hh : pm_qS T pc L S h sz sl = some st') (kk : pm_V p l e R s m args below meth c Q T D aC b k sz0 sl0 st') : pm_V p l e R s m args below meth c Q T D aC b k sz0 sl0 (pc, L, S, h, sz, sl) := by
  obtain ⟨hx, hb, -, -, -, hK, -⟩ := hC
  unfold pm_qS at hh
  split at hh
  case h_2 => cases hh
  case h_1 v i a r =>
  split at hh
  case h_2 => cases hh
  case h_1 kd n f e1 =>
  split at hh
  case h_2 => cases hh
  case h_1 ci fs e2 =>
  split at hh
  case isFalse => cases hh
  case isTrue hi =>
  cases hh
  obtain ⟨ha, hcell⟩ := pm_qar_inv e1
  obtain ⟨hv, hcellv⟩ := pm_obj_inv e2
  obtain ⟨hin, hty, hci⟩ := hi
  have hq := List.getElem?_eq_getElem hci
  rw [hq] at hty
  intro H locs ls hP hS hl
  refine va_astq hx hb hK.1 hP (pm_w_D aC b h sz) hS a kd v ci (pm_w_P hP ha hcell) (pm_tys_get hty) (pm_w_P hP hv hcellv) hq (pm_in_of hin) hd (fun H1 locs1 hP1 _ hS1 => ?_)
  refine kk H1 locs1 ls (pm_setP hP1 ?_) hS1 hl
  have e3 : (va_up (fun j => (f j).map (fun x => b + x)) i.toNatClampNeg (some (b + v))) = fun j => (va_up f i.toNatClampNeg (some v) j).map (fun x => b + x) := by
    funext j
    unfold va_up
    by_cases hj : j = i.toNatClampNeg
    · rw [if_pos hj, if_pos hj]; rfl
    · rw [if_neg hj, if_neg hj]
  exact congrArg (fun z => (Sum.inl (aC kd, n, Sum.inr (Sum.inr (Sum.inr (Sum.inr z)))) : va_E)) e3
theorem pm_alen (hC : pm_C T G Ns D aC b k p s m args meth c) (hd : decode (pm_code T k) pc = .ok (.arraylength, 1))
    (hh : pm_al T pc L S h sz sl = some st') (kk : pm_V p l e R s m args below meth c Q T D aC b k sz0 sl0 st') : pm_V p l e R s m args below meth c Q T D aC b k sz0 sl0 (pc, L, S, h, sz, sl) := by
  obtain ⟨hx, hb, -, -, -, hK, -⟩ := hC
  unfold pm_al at hh
  split at hh
  case h_2 => cases hh
  case h_1 a r =>
  split at hh
  case isFalse => cases hh
  case isTrue ha =>
  split at hh
  case h_2 => cases hh
  case h_1 kd n x e1 =>
  split at hh
  case isFalse => cases hh
  case isTrue hty =>
  cases hh
  obtain ⟨ty, ht⟩ := Option.isSome_iff_exists.mp hty
  intro H locs ls hP hS hl
  refine va_alen hx hb hK.1 hP a kd (pm_w_P hP ha e1) (pm_tys_get ht) ?_ hd (kk H locs ls hP hS hl)
  obtain f | f | f | f | f := x <;> rfl
end PMS
end MG06strnx4
section MG06strnx5
/-! new cells, and what the library does -/
section PMA
variable {p : Program} {l : Launch} {e : Env} {R : Room} {s : State} {m : MethodId} {args : Array Value} {below : List Frame} {meth : Method} {c : Code} {Q : State → Prop}
variable {T : pm_Tab} {G Ns : List Cond} {D : va_G} {aC : Nat → ClassId} {b g k fr lo pc sz sl sz0 sl0 : Nat} {L : pm_L} {S : List Value} {h : pm_H} {st' : pm_St}
theorem pm_fresh {q : Nat} {x : va_E} {H1 : Heap} (hD : va_D (fun q => b ≤ q) (pm_w aC b h sz ++ [(q, x)])) (hP : va_P D (pm_cl T) (pm_w aC b h sz ++ [(q, x)]) H1) (hz : H1.size ≤ b + sz + 1) : q = b + sz := by
  have hg : (pm_w aC b h sz ++ [(q, x)])[sz]? = some (q, x) := by
    rw [List.getElem?_append_right (by rw [pm_w_len]; exact Nat.le_refl _), pm_w_len, Nat.sub_self]
    rfl
  have h1 : q < H1.size := (hP sz _ hg).lt
  have h2 : b ≤ q := hD.2 sz _ hg
  by_cases h3 : q < b + sz
  · have h4 : (pm_w aC b h sz ++ [(q, x)])[q - b]? = some (b + (q - b), pm_trE aC b (h (q - b))) := by
      rw [List.getElem?_append_left (by rw [pm_w_len]; omega)]
      exact pm_w_get (by omega)
    have h5 := hD.1 sz (q - b) _ _ hg h4 (by dsimp only; omega)
    omega
  · omega
theorem pm_pushP {H1 : Heap} {q : Nat} {e : pm_E} {e' : va_E} (hP1 : va_P D (pm_cl T) (pm_w aC b h sz ++ [(q, e')]) H1) (hq : q = b + sz) (he : e' = pm_trE aC b e) : va_P D (pm_cl T) (pm_w aC b (va_up h sz e) (sz + 1)) H1 := by
  rw [hq, pm_w_push he] at hP1
  exact hP1
theorem pm_newobj (OK : pm_ok T G Ns) (hC : pm_C T G Ns D aC b k p s m args meth c) (hs0 : s.heap.size = b + sz0 + g) (hg : g = 0 ∨ st'.2.2.2.2.1 = sz0) (h0 : sz0 ≤ sz) (h1 : sl0 ≤ sl) {j : Nat} (hd : decode (pm_code T k) pc = .ok (.new j, 3)) (hh : pm_newO T k j pc L S h sz sl = some st') (hRc : st'.2.2.2.2.1 ≤ sz0 + R.cells) (hRs : st'.2.2.2.2.2 ≤ sl0 + R.slots)
    (kk : pm_V p l e R s m args below meth c Q T D aC b k sz0 sl0 st') : pm_V p l e R s m args below meth c Q T D aC b k sz0 sl0 (pc, L, S, h, sz, sl) := by
  obtain ⟨hx, hb, -, hown, hts, hK, -⟩ := hC
  unfold pm_newO at hh
  split at hh
  case h_2 => cases hh
  case h_1 ci e1 =>
  split at hh
  case isFalse => cases hh
  case isTrue hci =>
  obtain ⟨C, F, N, ty, q1, q2, q3, q4, q5, q6, q7, q8, q9⟩ := (OK.2.2.2.2.2.1 _ _ _ e1).1 hci
  unfold pm_nw at hh
  cases hh
  rw [q7] at hRs
  dsimp only at hRc hRs hg
  have hg0 : g = 0 := by omega
  subst hg0
  intro H locs ls hP hS hl
  refine va_new (ci := ci) (fs := pm_df T ci) hx hb hts q2 ty q3 hown (hts _ q4) (hts _ q5) (hts _ q6) hK.1 hP (pm_w_D aC b h sz) hS (fun q hq => by omega) q1 q8 (by dsimp only; omega) (by dsimp only; omega) hd (fun q H1 hP1 hD1 hS1 => ?_)
  refine pm_sized fun hz => ?_
  dsimp only at hz hP1 hD1
  have hq := pm_fresh hD1 hP1 (by omega)
  have hP2 := pm_pushP (e := .inr (ci, pm_df T ci)) hP1 hq (by show _ = Sum.inr (ci, (pm_df T ci).map (pm_tr aC b)); rw [q9])
  have hW := kk H1 locs ls hP2 hS1 hl
  rw [q7] at hW
  subst hq
  exact W.cs (by dsimp only; omega) (by dsimp only; omega) hW
theorem pm_aC_eq {tys : List (ClassId × FieldType)} {kd : Nat} {cA c2 : ClassId} {ty : FieldType} (h1 : va_K D (pm_cl T) tys s) (h2 : tys[kd]? = some (c2, ty)) (h3 : va_K D (pm_cl T) (tys ++ [(cA, ty)]) s) : cA = c2 := by
  have a1 := (h1.2 kd _ h2).2
  have a2 := (h3.2 tys.length (cA, ty) (by rw [List.getElem?_append_right (Nat.le_refl _), Nat.sub_self]; rfl)).2
  dsimp only at a1 a2
  unfold va_RA at a1 a2
  cases ty with
  | object C =>
    obtain ⟨_, _, _, _, _, x1⟩ := a1
    obtain ⟨_, _, _, _, _, x2⟩ := a2
    exact Option.some.inj (x2.symm.trans x1)
  | _ => exact Option.some.inj (a2.symm.trans a1)
theorem pm_newarr (OK : pm_ok T G Ns) (hC : pm_C T G Ns D aC b k p s m args meth c) (hs0 : s.heap.size = b + sz0 + g) (hg : g = 0) (h0 : sz0 ≤ sz) (h1 : sl0 ≤ sl) {at_ : ArrayType} {ty : FieldType} (hty : newarray.typeOf at_ = ty) (hno : ∀ C, ty ≠ .object C) (hby : componentBytes ty ≤ 8) {n : Int32} {r : List Value} {kd : Nat} {a0 : vp_A} (ha0 : ∀ cA : ClassId, vp_cell cA a0 = arrV cA n.toNatClampNeg (fun _ => defaultValue ty)) (htr : pm_trA b a0 = a0) (hk : pm_tysAt T ty = some kd) (hn : ¬ n < 0) (hN : n.toNatClampNeg ≤ 65536)
    (hd : decode (pm_code T k) pc = .ok (.newarray at_, 2)) (hRc : sz + 1 ≤ sz0 + R.cells) (hRs : sl + n.toNatClampNeg ≤ sl0 + R.slots)
    (kk : pm_V p l e R s m args below meth c Q T D aC b k sz0 sl0 (pc + 2, L, .ref sz :: r, va_up h sz (.inl (kd, a0)), sz + 1, sl + n.toNatClampNeg)) : pm_V p l e R s m args below meth c Q T D aC b k sz0 sl0 (pc, L, .int n :: r, h, sz, sl) := by
  obtain ⟨hx, hb, -, hown, hts, hK, -⟩ := hC
  subst hg
  have harr : Cond.arrayClass ty ∈ G := (OK.2.2.2.2.2.2.1 ty (by rw [hk]; exact fun q => by cases q)).resolve_right (fun ⟨C, q⟩ => hno C q)
  intro H locs ls hP hS hl
  refine va_newa (a0 := a0) hx hb (by rw [hty]; exact hts _ harr) hty hK.1 hP (pm_w_D aC b h sz) hS (fun q hq => by omega) ha0 hn rfl (Nat.le_trans (Nat.mul_le_mul hN hby) (by decide)) (by dsimp only; omega) (by dsimp only; omega) hd (fun q cA H1 hK1 hP1 hD1 hS1 => ?_)
  have hc2 := pm_aC_eq hK.1 (pm_tys_get (pm_tysAt_get hk)) hK1
  subst hc2
  refine pm_sized fun hz => ?_
  dsimp only at hz hP1 hD1
  have hq := pm_fresh hD1 hP1 (by omega)
  have hW := kk H1 locs ls (pm_pushP hP1 hq (by show _ = Sum.inl (aC kd, pm_trA b a0); rw [htr])) hS1 hl
  subst hq
  exact W.cs (by dsimp only; omega) (by dsimp only; omega) hW
theorem pm_newqarr (OK : pm_ok T G Ns) (hC : pm_C T G Ns D aC b k p s m args meth c) (hs0 : s.heap.size = b + sz0 + g) (hg : g = 0 ∨ st'.2.2.2.2.1 = sz0) (h0 : sz0 ≤ sz) (h1 : sl0 ≤ sl) {j : Nat} (hd : decode (pm_code T k) pc = .ok (.anewarray j, 3)) (hh : pm_newQ T k j pc L S h sz sl = some st') (hRc : st'.2.2.2.2.1 ≤ sz0 + R.cells) (hRs : st'.2.2.2.2.2 ≤ sl0 + R.slots)
    (kk : pm_V p l e R s m args below meth c Q T D aC b k sz0 sl0 st') : pm_V p l e R s m args below meth c Q T D aC b k sz0 sl0 (pc, L, S, h, sz, sl) := by
  obtain ⟨hx, hb, -, hown, hts, hK, -⟩ := hC
  unfold pm_newQ at hh
  split at hh
  case h_2 => cases hh
  case h_1 n r =>
  split at hh
  case h_2 => cases hh
  case h_1 q0 e1 =>
  split at hh
  case isFalse => cases hh
  case isTrue hci =>
  obtain ⟨hq0, hn, hN⟩ := hci
  obtain ⟨C, q1, q2, q3⟩ := (OK.2.2.2.2.2.1 _ _ _ e1).2 hq0 _ rfl
  unfold pm_nw at hh
  cases hh
  dsimp only at hRc hRs hg
  have hg0 : g = 0 := by omega
  subst hg0
  intro H locs ls hP hS hl
  refine va_newq hx hb hown (hts _ q2) (hK.2.1 _ q3) hK.1 hP (pm_w_D aC b h sz) hS (fun q hq => by omega) hn rfl (by omega) (by dsimp only; omega) (by dsimp only; omega) hd (fun q cA H1 hK1 hP1 hD1 hS1 => ?_)
  have hc2 := pm_aC_eq hK.1 (pm_tys_get q1) hK1
  subst hc2
  refine pm_sized fun hz => ?_
  dsimp only at hz hP1 hD1
  have hq := pm_fresh hD1 hP1 (by omega)
  have hW := kk H1 locs ls (pm_pushP hP1 hq rfl) hS1 hl
  subst hq
  exact W.cs (by dsimp only; omega) (by dsimp only; omega) hW
theorem pm_libOk (OK : pm_ok T G Ns) (hC : pm_C T G Ns D aC b k p s m args meth c) (hfr : R.frames = fr) (hlo : R.locals = lo) (hcl : sz - sz0 ≤ R.cells) (hsl : sl - sl0 ≤ R.slots) {sp : Bool} {j : Nat} (hd : decode (pm_code T k) pc = .ok (if sp = true then .invokespecial j else .invokestatic j, 3)) (hh : pm_libW T sp fr lo k j pc L S h sz sl = some st')
    (kk : pm_V p l e R s m args below meth c Q T D aC b k sz0 sl0 st') : pm_V p l e R s m args below meth c Q T D aC b k sz0 sl0 (pc, L, S, h, sz, sl) := by
  obtain ⟨hx, hb, hml, hown, hts, hK, -⟩ := hC
  unfold pm_libW at hh
  split at hh
  case h_2 => cases hh
  case h_1 w t e1 =>
  have hw := OK.2.2.2.2.1 _ _ _ _ e1
  split at hh
  case isFalse => cases hh
  case isTrue hsp =>
  unfold pm_lib at hh
  split at hh
  case h_5 => cases hh
  case h_1 a r =>
    split at hh
    case isFalse => cases hh
    case isTrue hc =>
    cases hh
    obtain ⟨w1, w2, w3⟩ := hw
    have hsp' : sp = true := hsp.symm
    subst hsp'
    intro H locs ls hP hS hl
    refine W.objInit hx hb hown (hts _ w1) (hts _ w2) (hts _ w3) rfl (hl.1.trans hml.symm) (a := b + a) (rest := r.map (pm_tr aC b)) rfl hd (by omega) ?_ (kk H locs ls hP hS hl)
    show 2 * 0 + _ + 12 ≤ _
    rw [pm_sum_tr]
    omega
  case h_2 y x r =>
    split at hh
    case isFalse => cases hh
    case isTrue hc =>
    cases hh
    obtain ⟨w1, w2, w3, w4⟩ := hw
    have hsp' : sp = false := hsp.symm
    subst hsp'
    intro H locs ls hP hS hl
    exact va_mmin hx hb (hml.trans hl.1.symm) hown (hts _ w1) (hts _ w2) (hts _ w3) (hts _ w4) (by omega) (by rw [pm_sum_tr]; omega) hcl hsl hd (kk H locs ls hP hS hl)
  case h_3 y x r =>
    split at hh
    case isFalse => cases hh
    case isTrue hc =>
    cases hh
    obtain ⟨w1, w2, w3, w4⟩ := hw
    have hsp' : sp = false := hsp.symm
    subst hsp'
    intro H locs ls hP hS hl
    exact va_mmax hx hb (hml.trans hl.1.symm) hown (hts _ w1) (hts _ w2) (hts _ w3) (hts _ w4) (by omega) (by rw [pm_sum_tr]; omega) hcl hsl hd (kk H locs ls hP hS hl)
  case h_4 n dp a s0 a0 r =>
    split at hh
    case h_2 => cases hh
    case h_1 k0 n0 f kd n1 g ea eb =>
    split at hh
    case isFalse => cases hh
    case isTrue hc =>
    cases hh
    obtain ⟨⟨c1, c2⟩, c3, c4, c5, c6, c7⟩ := hc
    obtain ⟨w1, w2, w3, w4⟩ := hw
    have hsp' : sp = false := hsp.symm
    subst hsp'
    obtain ⟨ha0, hcell0, hty0⟩ := pm_iar_inv ea
    obtain ⟨ha, hcell, hty⟩ := pm_iar_inv eb
    intro H locs ls hP hS hl
    refine va_copyi hx hb (hml.trans hl.1.symm) hown (hts _ w1) (hts _ w2) (hts _ w3) (hts _ w4) hK.1 hP (pm_w_D aC b h sz) hS a0 a k0 kd (pm_w_P hP ha0 hcell0) (pm_w_P hP ha hcell) (pm_tys_get hty0) (pm_tys_get hty) rfl c3 c4 c5 c6 c7 (fun i _ => rfl) (by omega) ?_ hd (fun H1 locs1 hP1 _ hS1 => kk H1 locs1 ls (pm_setP hP1 rfl) hS1 hl)
    rw [pm_sum_tr]
    have hn : nativeFrameWords "java/lang/System" "arraycopy" 5 + 11 ≤ 60 := by decide +kernel
    omega
end PMA
end MG06strnx5
section MG06strnx6
/-! calls: what they ask and give -/
section PMR
variable {p : Program} {l : Launch} {e : Env} {R : Room} {s : State} {m : MethodId} {args : Array Value} {below : List Frame} {meth : Method} {c : Code} {H : Heap} {locs : List Loc} {cells slots : Nat} {Q : State → Prop}
variable {T : pm_Tab} {G Ns : List Cond} {D : va_G} {aC : Nat → ClassId} {b g k fr lo pc sz sl sz0 sl0 : Nat} {L : pm_L} {S : List Value} {h : pm_H} {st' : pm_St}
def pm_ws (T : pm_Tab) (G : List Cond) (t : Nat) : List Cond := Cond.code (pm_y T t) (pm_code T t) (pm_max T t) (pm_ret T t) :: G
def pm_Pc (T : pm_Tab) (Ns : List Cond) (D : va_G) (aC : Nat → ClassId) (b g : Nat) (As : List Value) (h : pm_H) (sz : Nat) : Array Value → State → Prop := va_Pc (As.map (pm_tr aC b)) (fun U => U.heap.size = b + sz + g ∧ va_P D (pm_cl T) (pm_w aC b h sz) U.heap ∧ pm_K T Ns D aC b U)
def pm_Qc (T : pm_Tab) (D : va_G) (aC : Nat → ClassId) (b : Nat) (rv : Option Value) (h : pm_H) (sz : Nat) : Array Value → State → Outcome → State → Prop := fun _ st o t => o = .returned (rv.map (pm_tr aC b)) ∧ va_P D (pm_cl T) (pm_w aC b h sz) t.heap ∧ va_F (fun q => b ≤ q) st t
abbrev pm_rm (fr lo mc ms : Nat) : Room := { frames := fr, cells := mc, slots := ms, locals := lo }
/-- what a method of the tables does, as the pure machine tells it -/
def pm_Met (T : pm_Tab) (G Ns : List Cond) (l : Launch) (D : va_G) (aC : Nat → ClassId) (b g fr lo t : Nat) (As : List Value) (h : pm_H) (sz sl : Nat) (r : pm_Rs) : Prop := Met l (pm_y T t) (pm_ws T G t) (pm_rm fr lo (r.2.2.1 - sz) (r.2.2.2 - sl)) (pm_Pc T Ns D aC b g As h sz) (pm_Qc T D aC b r.1 r.2.1 r.2.2.1) (r.2.2.1 - sz) (r.2.2.2 - sl) (fun q => b ≤ q)
theorem pm_blind (OK : pm_ok T G Ns) {As : List Value} : FrameBlind (pm_Pc T Ns D aC b g As h sz) := by
  intro a U g mk hp
  obtain ⟨q1, q2, q3, q4, q5, q6⟩ := hp
  exact ⟨q1, q2, q3, va_K.moved (u := U) (U := U.calling g mk a) (Vm.Alike.refl U.vm) q4, fun w hw => (OK.2.2.1 w hw).1 U (U.calling g mk a) rfl (q5 w hw), q6.same rfl rfl⟩
theorem pm_size {H0 : Heap} (hS : va_S (fun q => b ≤ q) H0 H locs) (hP : va_P D (pm_cl T) (pm_w aC b h sz) H) (hs0 : H0.size = b + sz0 + g) (hg : g = 0 ∨ sz = sz0) (h0 : sz0 ≤ sz) (hz : H.size ≤ H0.size + (sz - sz0)) : H.size = b + sz + g := by
  by_cases he : sz = sz0
  · have := hS.1
    omega
  · have h1 : sz - 1 < sz := by omega
    have h2 := (hP (sz - 1) _ (pm_w_get h1)).lt
    dsimp only at h2
    omega
theorem pm_good (OK : pm_ok T G Ns) {ws : List Cond} (hs : ∀ w ∈ ws, w ∈ G) : GoodIn G ws := fun w hw => ⟨hs w hw, good_of_word (OK.2.1 w (hs w hw))⟩
theorem pm_K.warm (OK : pm_ok T G Ns) {U : State} (hW : s.WarmedH U.vm) (hS : va_S (fun q => b ≤ q) s.heap U.heap locs) (hK : pm_K T Ns D aC b s) : pm_K T Ns D aC b U := ⟨va_K.moved hW.alike hK.1, fun w hw => (OK.2.2.1 w hw).2 s U hW (hK.2.1 w hw), hK.2.2.warm hW hS⟩
theorem pm_after {mc ms : Nat} {rest st0 : List Value} {ls : Array Slot} {rv : Option Value} {h1 : pm_H} {sz1 : Nat} {a : Array Value} (hr : va_Run p l e R s m args below meth c H locs cells slots mc ms (F0 m pc ls st0) rest (pm_Qc T D aC b rv h1 sz1 a) (fun q => b ≤ q)) (hS : va_S (fun q => b ≤ q) s.heap H locs)
    (kk : ∀ (H1 : Heap) (locs1 : List Loc), va_P D (pm_cl T) (pm_w aC b h1 sz1) H1 → va_S (fun q => b ≤ q) s.heap H1 locs1 → W p l e R s m args below meth c H1 locs1 (cells + mc) (slots + ms) Q (F0 m (pc + 3) ls ((rv.map (pm_tr aC b)).toList ++ rest))) : W p l e R s m args below meth c H locs cells slots Q (F0 m pc ls st0) := by
  intro T' hT X
  obtain ⟨v, st₀, t, T2, L2, h0, X', hL, e1, e2, ⟨hv, hP, hz, hk⟩, st⟩ := hr T' hT X
  cases hv
  rw [h0] at hz hk
  obtain ⟨t2, a1, b1⟩ := kk T2.heap (locs ++ L2) (by rw [e1]; exact hP)
    ⟨Nat.le_trans hS.1 (by rw [e1]; exact hz), fun q q1 q2 => by rw [e1, hk q (Nat.lt_of_lt_of_le q1 hS.1) q2]; exact hS.2.1 q q1 q2, fun q hq => by
      rcases List.mem_append.mp hq with h | h
      · exact hS.2.2 q h
      · exact hL q h⟩ T2 rfl X'
  exact ⟨t2, st t2 a1, b1⟩
theorem pm_take (S : List Value) (n : Nat) : S = ((S.take n).reverse).reverse ++ S.drop n := by rw [List.reverse_reverse, List.take_append_drop]
theorem pm_stackS (S : List Value) (n : Nat) : S.map (pm_tr aC b) = ((S.take n).reverse.map (pm_tr aC b)).reverse ++ (S.drop n).map (pm_tr aC b) := by
  rw [← List.map_reverse, ← List.map_append, ← pm_take]
theorem pm_stackV {S A1 : List Value} {n a : Nat} (hA : (S.take n).reverse = .ref a :: A1) : S.map (pm_tr aC b) = (A1.map (pm_tr aC b)).reverse ++ .ref (b + a) :: (S.drop n).map (pm_tr aC b) := by
  have e := pm_stackS (aC := aC) (b := b) S n
  rw [hA, List.map_cons, List.reverse_cons, List.append_assoc] at e
  exact e
end PMR
end MG06strnx6
end MH00listsx8
section MH00listsx9
section MG15cstrx0
/-! the JDK's own methods on the String constants, walked -/
section STW
variable {l : Launch} {T : pm_Tab} {G : List Cond} {D : va_G} {aC : Nat → ClassId} {b : Nat} {X : va_W}
def st_P (T : pm_Tab) (D : va_G) (aC : Nat → ClassId) (b : Nat) (X : va_W) (As : List Value) : Array Value → State → Prop := va_Pc As (fun U => va_P D (pm_cl T) X U.heap ∧ pm_Z T aC b U)
def st_Q (T : pm_Tab) (D : va_G) (b : Nat) (X : va_W) (rv : Option Value) : Array Value → State → Outcome → State → Prop := fun _ st o t => o = .returned rv ∧ va_P D (pm_cl T) X t.heap ∧ va_F (fun q => b ≤ q) st t
theorem st_blind {As : List Value} : FrameBlind (st_P T D aC b X As) := by
  intro a U g mk hp
  obtain ⟨q1, q2, q3⟩ := hp
  exact ⟨q1, q2, q3.same rfl rfl⟩
theorem st_after {p : Program} {e : Env} {R : Room} {s : State} {m : MethodId} {args : Array Value} {below : List Frame} {meth : Method} {c : Code} {H : Heap} {locs : List Loc} {cells slots pc : Nat} {Q : State → Prop} {rest st0 : List Value} {ls : Array Slot} {rv : Option Value} {a : Array Value} (hr : va_Run p l e R s m args below meth c H locs cells slots 0 0 (F0 m pc ls st0) rest (st_Q T D b X rv a) (fun q => b ≤ q)) (hS : va_S (fun q => b ≤ q) s.heap H locs)
    (kk : ∀ (H1 : Heap) (locs1 : List Loc), va_P D (pm_cl T) X H1 → va_S (fun q => b ≤ q) s.heap H1 locs1 → W p l e R s m args below meth c H1 locs1 cells slots Q (F0 m (pc + 3) ls (rv.toList ++ rest))) : W p l e R s m args below meth c H locs cells slots Q (F0 m pc ls st0) := by
  intro T' hT X'
  obtain ⟨v, st₀, t, T2, L2, h0, X', hL, e1, e2, ⟨hv, hP, hz, hk⟩, st⟩ := hr T' hT X'
  cases hv
  rw [h0] at hz hk
  obtain ⟨t2, a1, b1⟩ := kk T2.heap (locs ++ L2) (by rw [e1]; exact hP)
    ⟨Nat.le_trans hS.1 (by rw [e1]; exact hz), fun q q1 q2 => by rw [e1, hk q (Nat.lt_of_lt_of_le q1 hS.1) q2]; exact hS.2.1 q q1 q2, fun q hq => by
      rcases List.mem_append.mp hq with h | h
      · exact hS.2.2 q h
      · exact hL q h⟩ T2 rfl X'
  exact ⟨t2, st t2 a1, b1⟩
theorem st_good (hg : ∀ w ∈ G, goodWord w = true) {ws : List Cond} (hs : ∀ w ∈ ws, w ∈ G) : GoodIn G ws := fun w hw => ⟨hs w hw, good_of_word (hg w (hs w hw))⟩
theorem st_C (hG : ∀ w ∈ st_ws, w ∈ G) {i : Nat} (hi : i < 5) : Met l st_yC (.code st_yC st_cC 1 (some .byte) :: G) (pm_rm 0 0 0 0) (st_P T D aC b X [.ref (aC (1000 + i))]) (st_Q T D b X (some (.int 0))) 0 0 (fun q => b ≤ q) := by
  refine Met.ofW (cc := st_cC) (maxL := 1) (ret := some .byte) (by decide) rfl ?_
  intro p e s m args below meth c s₁ B hml hv
  obtain ⟨rfl, hP, hZ⟩ := hv
  have hx := B.exec
  have hb := B.bytes
  have hr := B.returns
  have hts0 := atoms_spec (ws := Cond.code st_yC st_cC 1 (some .byte) :: G) B.pre
  have hts : ∀ w ∈ st_ws, w.before _ s = true := fun w hw => hts0 w (List.mem_cons_of_mem _ (hG w hw))
  have hown : s.vm.findClass "java/lang/String" = some m.cls := findClass_of_methodNamed B.named
  obtain ⟨-, hZ1, -, adV, hZ4⟩ := hZ
  obtain ⟨h1, h2, h3, h4⟩ := hZ4 i hi
  have hS : va_S (fun q => b ≤ q) s.heap s.heap [] := va_S.rf
  have hl := lv_entry ([.ref (aC (1000 + i))]) (n := 1) (Nat.le_of_ble_eq_true rfl)
  rw [lg_entry_eq]
  generalize (lg_sl ([.ref (aC (1000 + i))]) ++ List.replicate (1 - (lg_sl ([.ref (aC (1000 + i))])).length) Slot.unset).toArray = ls at hl ⊢
  have hl : lv_has ls 1 [(0, .ref (aC (1000 + i)))] := hl
  refine va_gets hx hb hZ1 hS hown (hts (.fieldLink "java/lang/String" 38 "java/lang/String" "COMPACT_STRINGS" "Z") (by decide +kernel)) (fun _ h => h) st_dC_0 ?_
  refine lv_if_eq hx hb st_dC_3 (tgt := 13) rfl (fun q => absurd q (by decide)) (fun _ => ?_)
  refine lv_aload_n hx hb st_dC_6 rfl (lv_at hl 0 rfl) ?_
  refine vk_getf hx hb h2 hS hown (hts (.fieldLink "java/lang/String" 15 "java/lang/String" "coder" "B") (by decide +kernel)) (fun _ h => h) st_dC_7 ?_
  refine lv_goto hx hb st_dC_10 (tgt := 14) rfl ?_
  exact W.zret hx hb hr rfl (fun t ht hW => ⟨rfl, by rw [ht]; exact hP, hS.F ht⟩) hS.2.2 st_dC_14 B.notSynchronized
theorem st_I (hG : ∀ w ∈ st_ws, w ∈ G) {i : Nat} (hi : i < 5) : Met l st_yI (.code st_yI st_cI 1 (some .boolean) :: G) (pm_rm 0 0 0 0) (st_P T D aC b X [.ref (aC (1000 + i))]) (st_Q T D b X (some (.int 1))) 0 0 (fun q => b ≤ q) := by
  refine Met.ofW (cc := st_cI) (maxL := 1) (ret := some .boolean) (by decide) rfl ?_
  intro p e s m args below meth c s₁ B hml hv
  obtain ⟨rfl, hP, hZ⟩ := hv
  have hx := B.exec
  have hb := B.bytes
  have hr := B.returns
  have hts0 := atoms_spec (ws := Cond.code st_yI st_cI 1 (some .boolean) :: G) B.pre
  have hts : ∀ w ∈ st_ws, w.before _ s = true := fun w hw => hts0 w (List.mem_cons_of_mem _ (hG w hw))
  have hown : s.vm.findClass "java/lang/String" = some m.cls := findClass_of_methodNamed B.named
  obtain ⟨-, hZ1, -, adV, hZ4⟩ := hZ
  obtain ⟨h1, h2, h3, h4⟩ := hZ4 i hi
  have hS : va_S (fun q => b ≤ q) s.heap s.heap [] := va_S.rf
  have hl := lv_entry ([.ref (aC (1000 + i))]) (n := 1) (Nat.le_of_ble_eq_true rfl)
  rw [lg_entry_eq]
  generalize (lg_sl ([.ref (aC (1000 + i))]) ++ List.replicate (1 - (lg_sl ([.ref (aC (1000 + i))])).length) Slot.unset).toArray = ls at hl ⊢
  have hl : lv_has ls 1 [(0, .ref (aC (1000 + i)))] := hl
  refine va_gets hx hb hZ1 hS hown (hts (.fieldLink "java/lang/String" 38 "java/lang/String" "COMPACT_STRINGS" "Z") (by decide +kernel)) (fun _ h => h) st_dI_0 ?_
  refine lv_if_eq hx hb st_dI_3 (tgt := 17) rfl (fun q => absurd q (by decide)) (fun _ => ?_)
  refine lv_aload_n hx hb st_dI_6 rfl (lv_at hl 0 rfl) ?_
  refine vk_getf hx hb h2 hS hown (hts (.fieldLink "java/lang/String" 15 "java/lang/String" "coder" "B") (by decide +kernel)) (fun _ h => h) st_dI_7 ?_
  refine lv_if_ne hx hb st_dI_10 (tgt := 17) rfl (fun q => absurd q (by decide)) (fun _ => ?_)
  refine lv_iconst hx hb st_dI_13 rfl ?_
  refine lv_goto hx hb st_dI_14 (tgt := 18) rfl ?_
  exact W.zret hx hb hr rfl (fun t ht hW => ⟨rfl, by rw [ht]; exact hP, hS.F ht⟩) hS.2.2 st_dI_18 B.notSynchronized
theorem st_Pc {x n : Int32} {v : Value} (hv1 : v.category = 1) (hx0 : ¬ x < 0) (hxn : x < n) : Met l st_yP (.code st_yP st_cP 3 (some .int) :: G) (pm_rm 0 0 0 0) (st_P T D aC b X [.int x, .int n, v]) (st_Q T D b X (some (.int x))) 0 0 (fun q => b ≤ q) := by
  refine Met.ofW (cc := st_cP) (maxL := 3) (ret := some .int) (by decide) rfl ?_
  intro p e s m args below meth c s₁ B hml hv
  obtain ⟨rfl, hP, hZ⟩ := hv
  have hx := B.exec
  have hb := B.bytes
  have hr := B.returns
  have hS : va_S (fun q => b ≤ q) s.heap s.heap [] := va_S.rf
  have hl := lv_entry ([.int x, .int n, v]) (n := 3) (by cases v <;> first | exact Nat.le_of_ble_eq_true rfl | cases hv1)
  rw [lg_entry_eq]
  generalize (lg_sl ([.int x, .int n, v]) ++ List.replicate (3 - (lg_sl ([.int x, .int n, v])).length) Slot.unset).toArray = ls at hl ⊢
  have hl0 : ls[0]? = some (.val (.int x)) := hl.2.2 (0, .int x) (by simp [lv_args])
  have hl1 : ls[1]? = some (.val (.int n)) := hl.2.2 (1, .int n) (by simp [lv_args, Value.category])
  refine lv_iload_n hx hb st_dP_0 rfl hl0 ?_
  refine lv_if_lt hx hb st_dP_1 (tgt := 9) rfl (fun q => absurd q hx0) (fun _ => ?_)
  refine lv_iload_n hx hb st_dP_4 rfl hl0 ?_
  refine lv_iload_n hx hb st_dP_5 rfl hl1 ?_
  refine lv_icmp_lt hx hb st_dP_6 (tgt := 16) rfl (fun _ => ?_) (fun q => absurd hxn q)
  refine lv_iload_n hx hb st_dP_16 rfl hl0 ?_
  exact W.iret hx hb hr (fun t ht hW => ⟨rfl, by rw [ht]; exact hP, hS.F ht⟩) hS.2.2 st_dP_17 B.notSynchronized
theorem st_K (hg : ∀ w ∈ G, goodWord w = true) (hG : ∀ w ∈ st_ws, w ∈ G) {x n : Int32} (hx0 : ¬ x < 0) (hxn : x < n) : Met l st_yK (.code st_yK st_cK 2 none :: G) (pm_rm 1 22 0 0) (st_P T D aC b X [.int x, .int n]) (st_Q T D b X none) 0 0 (fun q => b ≤ q) := by
  refine Met.ofW (cc := st_cK) (maxL := 2) (ret := none) (by decide) rfl ?_
  intro p e s m args below meth c s₁ B hml hv
  obtain ⟨rfl, hP, hZ⟩ := hv
  have hx := B.exec
  have hb := B.bytes
  have hr := B.returns
  have hts0 := atoms_spec (ws := Cond.code st_yK st_cK 2 none :: G) B.pre
  have htG : ∀ w ∈ G, w.before _ s = true := fun w hw => hts0 w (List.mem_cons_of_mem _ hw)
  have hts : ∀ w ∈ st_ws, w.before _ s = true := fun w hw => htG w (hG w hw)
  have hown : s.vm.findClass "java/lang/String" = some m.cls := findClass_of_methodNamed B.named
  have hZ0 := hZ
  obtain ⟨-, -, ⟨v, hZ2, hv1⟩, -⟩ := hZ
  have hS : va_S (fun q => b ≤ q) s.heap s.heap [] := va_S.rf
  have hl := lv_entry ([.int x, .int n]) (n := 2) (Nat.le_of_ble_eq_true rfl)
  rw [lg_entry_eq]
  generalize (lg_sl ([.int x, .int n]) ++ List.replicate (2 - (lg_sl ([.int x, .int n])).length) Slot.unset).toArray = ls at hl ⊢
  have hl : lv_has ls 2 [(0, .int x), (1, .int n)] := hl
  refine lv_iload_n hx hb st_dK_0 rfl (lv_at hl 0 rfl) ?_
  refine lv_iload_n hx hb st_dK_1 rfl (lv_at hl 1 rfl) ?_
  refine va_gets hx hb hZ2 hS hown (hts (.fieldLink "java/lang/String" 1053 "jdk/internal/util/Preconditions" "SIOOBE_FORMATTER" "Ljava/util/function/BiFunction;") (by decide +kernel)) (fun _ h => h) st_dK_2 ?_
  refine st_after (va_runS (As := [.int x, .int n, v]) (rest := []) ⟨hx, hb, hml, hown, htG⟩ (st_Pc (T := T) (D := D) (aC := aC) (b := b) (X := X) (G := G) hv1 hx0 hxn) (va_cwS 3 htG (st_good hg ?_) rfl rfl rfl ⟨by decide, by decide, by decide +kernel⟩ ⟨Nat.le_of_ble_eq_true rfl, Nat.le_of_ble_eq_true rfl⟩) ⟨st_blind, fun U hU hW => ⟨rfl, by rw [hU]; exact hP, hZ0.warm hW (by rw [hU]; exact hS)⟩⟩ rfl rfl hl.1 rfl (Nat.le_of_ble_eq_true rfl) st_dK_5 ⟨Nat.le_refl _, Nat.le_refl _⟩) hS (fun H1 locs1 hP1 hS1 => ?_)
  · intro w hw
    simp only [va_wsS, List.mem_append, List.mem_cons, List.not_mem_nil, or_false] at hw
    rcases hw with (rfl | rfl | rfl) | rfl | hw
    · exact hG _ (by decide +kernel)
    · exact hG _ (by decide +kernel)
    · exact hG _ (by decide +kernel)
    · exact hG _ (by decide +kernel)
    · exact hw
  · refine lv_pop hx hb st_dK_8 rfl ?_
    exact W.vret hx hb hr (fun t ht hW => ⟨rfl, by rw [ht]; exact hP1, hS1.F ht⟩) hS1.2.2 st_dK_9 B.notSynchronized
/-- every literal: every entry is a small byte -/
theorem st_all : ∀ i, i < 5 → ((st_tx i).length < 100 ∧ ∀ k, k < (st_tx i).length → ((((st_tx i).getD k 0) &&& 255).toUInt32 % 65536).toInt32 = (st_tx i).getD k 0 ∧ narrow .char (.int ((st_tx i).getD k 0)) = .int ((st_tx i).getD k 0)) := by decide +kernel
theorem st_len31 : ∀ i, i < 5 → (Int32.ofNat (st_tx i).length) >>> ((0 : Int32) &&& 31) = Int32.ofNat (st_tx i).length := by decide +kernel
theorem st_in {x : Int32} {n : Nat} (hn : n < 100) (h : pm_in x n = true) : ¬ x < 0 ∧ x < Int32.ofNat n := by
  have h2 : ¬ (x < 0 ∨ n ≤ x.toNatClampNeg) := of_decide_eq_true h
  have h3 : ¬ x < 0 := fun q => h2 (Or.inl q)
  refine ⟨h3, ?_⟩
  have h4 : x.toNatClampNeg < n := Nat.not_le.mp (fun q => h2 (Or.inr q))
  have h5 : (0 : Int) ≤ x.toInt := by
    have := Int32.not_lt.mp h3
    simpa using Int32.le_iff_toInt_le.mp this
  have h6 : (Int32.ofNat n).toInt = n := by
    rw [Int32.toInt_ofNat_of_lt (by omega)]
  rw [Int32.lt_iff_toInt_lt, h6]
  have h7 : x.toNatClampNeg = x.toInt.toNat := rfl
  omega
theorem st_B (hg : ∀ w ∈ G, goodWord w = true) (hG : ∀ w ∈ st_ws, w ∈ G) {i : Nat} (hi : i < 5) {x : Int32} (hin : pm_in x (st_tx i).length = true) {q : Nat} : Met l st_yB (.code st_yB st_cB 2 (some .char) :: G) (pm_rm 2 43 0 0) (va_Pc [.ref q, .int x] (fun U => va_P D (pm_cl T) X U.heap ∧ pm_Z T aC b U ∧ va_T .byte q (st_tx i).length (fun j => .int ((st_tx i).getD j 0)) (fun q => b ≤ q) U U.heap)) (st_Q T D b X (some (.int ((st_tx i).getD x.toNatClampNeg 0)))) 0 0 (fun q => b ≤ q) := by
  refine Met.ofW (cc := st_cB) (maxL := 2) (ret := some .char) (by decide) rfl ?_
  intro p e s m args below meth c s₁ B hml hv
  obtain ⟨rfl, hP, hZ, hT4⟩ := hv
  have hx := B.exec
  have hb := B.bytes
  have hr := B.returns
  have hts0 := atoms_spec (ws := Cond.code st_yB st_cB 2 (some .char) :: G) B.pre
  have htG : ∀ w ∈ G, w.before _ s = true := fun w hw => hts0 w (List.mem_cons_of_mem _ hw)
  have hown : s.vm.findClass "java/lang/StringLatin1" = some m.cls := findClass_of_methodNamed B.named
  have hS : va_S (fun q => b ≤ q) s.heap s.heap [] := va_S.rf
  obtain ⟨a1, a2⟩ := st_all i hi
  obtain ⟨x0, xn⟩ := st_in a1 hin
  have hlt : x.toNatClampNeg < (st_tx i).length := by
    have h2 : ¬ (x < 0 ∨ (st_tx i).length ≤ x.toNatClampNeg) := of_decide_eq_true hin
    omega
  obtain ⟨b1, b2⟩ := a2 _ hlt
  have hl := lv_entry ([.ref q, .int x]) (n := 2) (Nat.le_of_ble_eq_true rfl)
  rw [lg_entry_eq]
  generalize (lg_sl ([.ref q, .int x]) ++ List.replicate (2 - (lg_sl ([.ref q, .int x])).length) Slot.unset).toArray = ls at hl ⊢
  have hl : lv_has ls 2 [(0, .ref q), (1, .int x)] := hl
  refine lv_iload_n hx hb st_dB_0 rfl (lv_at hl 1 rfl) ?_
  refine lv_aload_n hx hb st_dB_1 rfl (lv_at hl 0 rfl) ?_
  refine va_tlen hx hb hT4 hS rfl st_dB_2 ?_
  refine st_after (va_runS (As := [.int x, .int (Int32.ofNat (st_tx i).length)]) (rest := []) ⟨hx, hb, hml, hown, htG⟩ (st_K (T := T) (D := D) (aC := aC) (b := b) (X := X) hg hG x0 xn) (va_cwS 2 htG (st_good hg ?_) rfl rfl rfl ⟨by decide, by decide, by decide +kernel⟩ ⟨Nat.le_of_ble_eq_true rfl, Nat.le_of_ble_eq_true rfl⟩) ⟨st_blind, fun U hU hW => ⟨rfl, by rw [hU]; exact hP, hZ.warm hW (by rw [hU]; exact hS)⟩⟩ rfl rfl hl.1 rfl (Nat.le_of_ble_eq_true rfl) st_dB_3 ⟨Nat.le_refl _, Nat.le_refl _⟩) hS (fun H1 locs1 hP1 hS1 => ?_)
  · intro w hw
    simp only [va_wsS, List.mem_append, List.mem_cons, List.not_mem_nil, or_false] at hw
    rcases hw with (rfl | rfl | rfl) | rfl | hw
    · exact hG _ (by decide +kernel)
    · exact hG _ (by decide +kernel)
    · exact hG _ (by decide +kernel)
    · exact hG _ (by decide +kernel)
    · exact hw
  · refine lv_aload_n hx hb st_dB_6 rfl (lv_at hl 0 rfl) ?_
    refine lv_iload_n hx hb st_dB_7 rfl (lv_at hl 1 rfl) ?_
    refine va_tb hx hb hT4 hS1 (pm_in_of hin) rfl st_dB_8 ?_
    refine lv_sipush hx hb st_dB_9 rfl ?_
    refine lv_iand hx hb st_dB_12 ?_
    refine lv_i2c hx hb st_dB_13 b1 ?_
    exact W.zret hx hb hr b2 (fun t ht hW => ⟨rfl, by rw [ht]; exact hP1, hS1.F ht⟩) hS1.2.2 st_dB_14 B.notSynchronized
theorem st_Len (hg : ∀ w ∈ G, goodWord w = true) (hG : ∀ w ∈ st_ws, w ∈ G) {i : Nat} (hi : i < 5) : Met l st_yL (.code st_yL st_cL 1 (some .int) :: G) (pm_rm 1 20 0 0) (st_P T D aC b X [.ref (aC (1000 + i))]) (st_Q T D b X (some (.int (Int32.ofNat (st_tx i).length)))) 0 0 (fun q => b ≤ q) := by
  refine Met.ofW (cc := st_cL) (maxL := 1) (ret := some .int) (by decide) rfl ?_
  intro p e s m args below meth c s₁ B hml hv
  obtain ⟨rfl, hP, hZ⟩ := hv
  have hx := B.exec
  have hb := B.bytes
  have hr := B.returns
  have hts0 := atoms_spec (ws := Cond.code st_yL st_cL 1 (some .int) :: G) B.pre
  have htG : ∀ w ∈ G, w.before _ s = true := fun w hw => hts0 w (List.mem_cons_of_mem _ hw)
  have hts : ∀ w ∈ st_ws, w.before _ s = true := fun w hw => htG w (hG w hw)
  have hown : s.vm.findClass "java/lang/String" = some m.cls := findClass_of_methodNamed B.named
  have hZ0 := hZ
  obtain ⟨-, hZ1, -, adV, hZ4⟩ := hZ
  obtain ⟨h1, h2, h3, h4⟩ := hZ4 i hi
  have hS : va_S (fun q => b ≤ q) s.heap s.heap [] := va_S.rf
  have hl := lv_entry ([.ref (aC (1000 + i))]) (n := 1) (Nat.le_of_ble_eq_true rfl)
  rw [lg_entry_eq]
  generalize (lg_sl ([.ref (aC (1000 + i))]) ++ List.replicate (1 - (lg_sl ([.ref (aC (1000 + i))])).length) Slot.unset).toArray = ls at hl ⊢
  have hl : lv_has ls 1 [(0, .ref (aC (1000 + i)))] := hl
  refine lv_aload_n hx hb st_dL_0 rfl (lv_at hl 0 rfl) ?_
  refine vk_getf hx hb h3 hS hown (hts (.fieldLink "java/lang/String" 9 "java/lang/String" "value" "[B") (by decide +kernel)) (fun _ h => h) st_dL_1 ?_
  refine va_tlen hx hb h4 hS rfl st_dL_4 ?_
  refine lv_aload_n hx hb st_dL_5 rfl (lv_at hl 0 rfl) ?_
  have hrec : ∃ cell : Cell, s.heap[aC (1000 + i)]? = some cell ∧ cell.vm.isStatics = false ∧ s.vm.findClass "java/lang/String" = some cell.cls := by
    obtain ⟨cell, q1, q2, q3, -⟩ := h1
    exact ⟨cell, q1, q2, q3⟩
  refine st_after (va_runV (As := []) (rest := [.int (Int32.ofNat (st_tx i).length)]) ⟨hx, hb, hml, hown, htG⟩ (st_C (T := T) (D := D) (aC := aC) (b := b) (X := X) hG hi) (cwV 0 htG (st_good hg ?_) rfl rfl rfl ⟨rfl, by decide, by decide, by decide +kernel⟩ ⟨Nat.le_of_ble_eq_true rfl, Nat.le_of_ble_eq_true rfl⟩) ⟨st_blind, hrec, fun U hU hW => ⟨rfl, by rw [hU]; exact hP, hZ0.warm hW (by rw [hU]; exact hS)⟩⟩ rfl rfl hl.1 rfl (Nat.le_of_ble_eq_true rfl) st_dL_6 ⟨Nat.le_refl _, Nat.le_refl _⟩) hS (fun H1 locs1 hP1 hS1 => ?_)
  · intro w hw
    simp only [wsV, List.mem_append, List.mem_cons, List.not_mem_nil, or_false] at hw
    rcases hw with (rfl | rfl | rfl | rfl) | rfl | hw
    · exact hG _ (by decide +kernel)
    · exact hG _ (by decide +kernel)
    · exact hG _ (by decide +kernel)
    · exact hG _ (by decide +kernel)
    · exact hG _ (by decide +kernel)
    · exact hw
  · refine lv_ishr hx hb st_dL_9 ?_
    rw [st_len31 i hi]
    exact W.iret hx hb hr (fun t ht hW => ⟨rfl, by rw [ht]; exact hP1, hS1.F ht⟩) hS1.2.2 st_dL_10 B.notSynchronized
theorem st_At (hg : ∀ w ∈ G, goodWord w = true) (hG : ∀ w ∈ st_ws, w ∈ G) {i : Nat} (hi : i < 5) {x : Int32} (hin : pm_in x (st_tx i).length = true) : Met l st_yA (.code st_yA st_cA 2 (some .char) :: G) (pm_rm 3 64 0 0) (st_P T D aC b X [.ref (aC (1000 + i)), .int x]) (st_Q T D b X (some (.int ((st_tx i).getD x.toNatClampNeg 0)))) 0 0 (fun q => b ≤ q) := by
  refine Met.ofW (cc := st_cA) (maxL := 2) (ret := some .char) (by decide) rfl ?_
  intro p e s m args below meth c s₁ B hml hv
  obtain ⟨rfl, hP, hZ⟩ := hv
  have hx := B.exec
  have hb := B.bytes
  have hr := B.returns
  have hts0 := atoms_spec (ws := Cond.code st_yA st_cA 2 (some .char) :: G) B.pre
  have htG : ∀ w ∈ G, w.before _ s = true := fun w hw => hts0 w (List.mem_cons_of_mem _ hw)
  have hts : ∀ w ∈ st_ws, w.before _ s = true := fun w hw => htG w (hG w hw)
  have hown : s.vm.findClass "java/lang/String" = some m.cls := findClass_of_methodNamed B.named
  have hZ0 := hZ
  obtain ⟨-, hZ1, -, adV, hZ4⟩ := hZ
  obtain ⟨h1, h2, h3, h4⟩ := hZ4 i hi
  have hS : va_S (fun q => b ≤ q) s.heap s.heap [] := va_S.rf
  obtain ⟨a1, a2⟩ := st_all i hi
  have hlt : x.toNatClampNeg < (st_tx i).length := by
    have h2 : ¬ (x < 0 ∨ (st_tx i).length ≤ x.toNatClampNeg) := of_decide_eq_true hin
    omega
  obtain ⟨b1, b2⟩ := a2 _ hlt
  have hl := lv_entry ([.ref (aC (1000 + i)), .int x]) (n := 2) (Nat.le_of_ble_eq_true rfl)
  rw [lg_entry_eq]
  generalize (lg_sl ([.ref (aC (1000 + i)), .int x]) ++ List.replicate (2 - (lg_sl ([.ref (aC (1000 + i)), .int x])).length) Slot.unset).toArray = ls at hl ⊢
  have hl : lv_has ls 2 [(0, .ref (aC (1000 + i))), (1, .int x)] := hl
  have hrec : ∃ cell : Cell, s.heap[aC (1000 + i)]? = some cell ∧ cell.vm.isStatics = false ∧ s.vm.findClass "java/lang/String" = some cell.cls := by
    obtain ⟨cell, q1, q2, q3, -⟩ := h1
    exact ⟨cell, q1, q2, q3⟩
  refine lv_aload_n hx hb st_dA_0 rfl (lv_at hl 0 rfl) ?_
  refine st_after (va_runV (As := []) (rest := []) ⟨hx, hb, hml, hown, htG⟩ (st_I (T := T) (D := D) (aC := aC) (b := b) (X := X) hG hi) (cwV 0 htG (st_good hg ?_) rfl rfl rfl ⟨rfl, by decide, by decide, by decide +kernel⟩ ⟨Nat.le_of_ble_eq_true rfl, Nat.le_of_ble_eq_true rfl⟩) ⟨st_blind, hrec, fun U hU hW => ⟨rfl, by rw [hU]; exact hP, hZ0.warm hW (by rw [hU]; exact hS)⟩⟩ rfl rfl hl.1 rfl (Nat.le_of_ble_eq_true rfl) st_dA_1 ⟨Nat.le_refl _, Nat.le_refl _⟩) hS (fun H1 locs1 hP1 hS1 => ?_)
  · intro w hw
    simp only [wsV, List.mem_append, List.mem_cons, List.not_mem_nil, or_false] at hw
    rcases hw with (rfl | rfl | rfl | rfl) | rfl | hw
    · exact hG _ (by decide +kernel)
    · exact hG _ (by decide +kernel)
    · exact hG _ (by decide +kernel)
    · exact hG _ (by decide +kernel)
    · exact hG _ (by decide +kernel)
    · exact hw
  · refine lv_if_eq hx hb st_dA_4 (tgt := 16) rfl (fun q => absurd q (by decide)) (fun _ => ?_)
    refine lv_aload_n hx hb st_dA_7 rfl (lv_at hl 0 rfl) ?_
    refine vk_getf hx hb h3 hS1 hown (hts (.fieldLink "java/lang/String" 9 "java/lang/String" "value" "[B") (by decide +kernel)) (fun _ h => h) st_dA_8 ?_
    refine lv_iload_n hx hb st_dA_11 rfl (lv_at hl 1 rfl) ?_
    refine st_after (va_runS (As := [.ref (adV i), .int x]) (rest := []) ⟨hx, hb, hml, hown, htG⟩ (st_B (T := T) (D := D) (aC := aC) (b := b) (X := X) hg hG hi hin) (va_cwS 2 htG (st_good hg ?_) rfl rfl rfl ⟨by decide, by decide, by decide +kernel⟩ ⟨Nat.le_of_ble_eq_true rfl, Nat.le_of_ble_eq_true rfl⟩) ⟨?_, fun U hU hW => ⟨rfl, by rw [hU]; exact hP1, hZ0.warm hW (by rw [hU]; exact hS1), by rw [hU]; exact va_T.moved hW.alike (h4.kept hS1.2.1)⟩⟩ rfl rfl hl.1 rfl (Nat.le_of_ble_eq_true rfl) st_dA_12 ⟨Nat.le_refl _, Nat.le_refl _⟩) hS1 (fun H2 locs2 hP2 hS2 => ?_)
    · intro w hw
      simp only [va_wsS, List.mem_append, List.mem_cons, List.not_mem_nil, or_false] at hw
      rcases hw with (rfl | rfl | rfl) | rfl | hw
      · exact hG _ (by decide +kernel)
      · exact hG _ (by decide +kernel)
      · exact hG _ (by decide +kernel)
      · exact hG _ (by decide +kernel)
      · exact hw
    · intro a U g mk hp
      obtain ⟨q1, q2, q3, q4⟩ := hp
      exact ⟨q1, q2, q3.same rfl rfl, va_T.moved (u := U) (U := U.calling g mk a) (Vm.Alike.refl U.vm) q4⟩
    · exact W.zret hx hb hr b2 (fun t ht hW => ⟨rfl, by rw [ht]; exact hP2, hS2.F ht⟩) hS2.2.2 st_dA_15 B.notSynchronized
end STW
/-! length and charAt of a String constant, in the pure machine -/
section STV
variable {p : Program} {l : Launch} {e : Env} {R : Room} {s : State} {m : MethodId} {args : Array Value} {below : List Frame} {meth : Method} {c : Code} {Q : State → Prop}
variable {T : pm_Tab} {G Ns : List Cond} {D : va_G} {aC : Nat → ClassId} {b k fr lo pc sz sl sz0 sl0 : Nat} {L : pm_L} {S : List Value} {h : pm_H} {st' : pm_St}
theorem pm_libVOk (OK : pm_ok T G Ns) (hC : pm_C T G Ns D aC b k p s m args meth c) (hfr : R.frames = fr) (hlo : R.locals = lo) (hcl : sz - sz0 ≤ R.cells) (hsl : sl - sl0 ≤ R.slots) {j : Nat} (hd : decode (pm_code T k) pc = .ok (.invokevirtual j, 3)) (hh : pm_libV T fr lo k j pc L S h sz sl = some st')
    (kk : pm_V p l e R s m args below meth c Q T D aC b k sz0 sl0 st') : pm_V p l e R s m args below meth c Q T D aC b k sz0 sl0 (pc, L, S, h, sz, sl) := by
  obtain ⟨hx, hb, hml, hown, hts, hK, -⟩ := hC
  have hZ := hK.2.2
  have hg := OK.2.1
  unfold pm_libV at hh
  split at hh
  case h_3 => cases hh
  case h_1 x i r e1 =>
    split at hh
    case isFalse => cases hh
    case isTrue hc =>
    cases hh
    obtain ⟨c1, c2, c3, c4⟩ := hc
    obtain ⟨w1, hG⟩ := OK.2.2.2.2.1 _ _ _ _ e1
    obtain ⟨-, -, -, adV, hZ4⟩ := hK.2.2
    intro H locs ls hP hS hl
    have hrec : ∃ cell : Cell, H[aC (1000 + i)]? = some cell ∧ cell.vm.isStatics = false ∧ s.vm.findClass "java/lang/String" = some cell.cls := by
      obtain ⟨cell, q1, q2, q3, -⟩ := (hZ4 i c1).1.kept hS.2.1
      exact ⟨cell, q1, q2, q3⟩
    refine st_after (T := T) (D := D) (b := b) (X := pm_w aC b h sz) (va_runV (As := []) (rest := r.map (pm_tr aC b)) ⟨hx, hb, hml, hown, hts⟩ (st_Len (T := T) (D := D) (aC := aC) (b := b) (X := pm_w aC b h sz) hg hG c1) (cwV 0 hts (st_good hg ?_) rfl rfl rfl ⟨rfl, by decide, by decide, by decide +kernel⟩ ⟨by dsimp only; omega, by dsimp only; omega⟩) ⟨st_blind, hrec, fun U hU hW => ⟨rfl, by rw [hU]; exact hP, hZ.warm hW (by rw [hU]; exact hS)⟩⟩ rfl rfl hl.1 rfl (lv_room (by rw [pm_sum_tr]; exact c4)) hd ⟨by dsimp only; omega, by dsimp only; omega⟩) hS (fun H1 locs1 hP1 hS1 => ?_)
    · intro w hw
      simp only [wsV, List.mem_append, List.mem_cons, List.not_mem_nil, or_false] at hw
      rcases hw with (rfl | rfl | rfl | rfl) | rfl | hw
      · exact w1
      · exact hG _ (by decide +kernel)
      · exact hG _ (by decide +kernel)
      · exact hG _ (by decide +kernel)
      · exact hG _ (by decide +kernel)
      · exact hw
    · exact kk H1 locs1 ls hP1 hS1 hl
  case h_2 x' x i r e1 =>
    split at hh
    case isFalse => cases hh
    case isTrue hc =>
    cases hh
    obtain ⟨c1, c2, c3, c4, c5⟩ := hc
    obtain ⟨w1, hG⟩ := OK.2.2.2.2.1 _ _ _ _ e1
    obtain ⟨-, -, -, adV, hZ4⟩ := hK.2.2
    intro H locs ls hP hS hl
    have hrec : ∃ cell : Cell, H[aC (1000 + i)]? = some cell ∧ cell.vm.isStatics = false ∧ s.vm.findClass "java/lang/String" = some cell.cls := by
      obtain ⟨cell, q1, q2, q3, -⟩ := (hZ4 i c1).1.kept hS.2.1
      exact ⟨cell, q1, q2, q3⟩
    refine st_after (T := T) (D := D) (b := b) (X := pm_w aC b h sz) (va_runV (As := [.int x]) (rest := r.map (pm_tr aC b)) ⟨hx, hb, hml, hown, hts⟩ (st_At (T := T) (D := D) (aC := aC) (b := b) (X := pm_w aC b h sz) hg hG c1 c5) (cwV 1 hts (st_good hg ?_) rfl rfl rfl ⟨rfl, by decide, by decide, by decide +kernel⟩ ⟨by dsimp only; omega, by dsimp only; omega⟩) ⟨st_blind, hrec, fun U hU hW => ⟨rfl, by rw [hU]; exact hP, hZ.warm hW (by rw [hU]; exact hS)⟩⟩ rfl rfl hl.1 rfl (lv_room (by rw [pm_sum_tr]; exact c4)) hd ⟨by dsimp only; omega, by dsimp only; omega⟩) hS (fun H1 locs1 hP1 hS1 => ?_)
    · intro w hw
      simp only [wsV, List.mem_append, List.mem_cons, List.not_mem_nil, or_false] at hw
      rcases hw with (rfl | rfl | rfl | rfl) | rfl | hw
      · exact w1
      · exact hG _ (by decide +kernel)
      · exact hG _ (by decide +kernel)
      · exact hG _ (by decide +kernel)
      · exact hG _ (by decide +kernel)
      · exact hw
    · exact kk H1 locs1 ls hP1 hS1 hl
end STV
end MG15cstrx0
section MG15cstrx1
/-! the soundness of every simple instruction -/
section PMO
variable {p : Program} {l : Launch} {e : Env} {R : Room} {s : State} {m : MethodId} {args : Array Value} {below : List Frame} {meth : Method} {c : Code} {Q : State → Prop}
variable {T : pm_Tab} {G Ns : List Cond} {D : va_G} {aC : Nat → ClassId} {b g k fr lo pc sz sl sz0 sl0 : Nat} {L : pm_L} {S : List Value} {h : pm_H} {st' : pm_St}
theorem sw_ldcwT {T : State} {locs : List Loc} {cells slots : Nat} (X : Stand p l e R s m args below meth c T locs cells slots) (hexec : p.tables.exec = Jvm.exec) {own text : String} {index : Nat} {a : Addr} (hown : s.vm.findClass own = some m.cls)
    (hconst : (Cond.stringRef own index text).before args s = true) (hev : (Term.string own index).eval args s none [] s = some (.ref a)) {f : JFrame} (hg : f.method = m) (hdg : decode c.code f.pc = .ok (.ldc_w index, 3)) :
    ∀ target, Steps p.tables e below (T.setTop { f with pc := f.pc + 3, stack := .ref a :: f.stack }) target → Steps p.tables e below (T.setTop f) target := by
  obtain ⟨k, cf, i, a', hk, hcf, hcp, -, hr, hev'⟩ := Cond.stringRef_spec hown hconst
  cases hev.symm.trans hev'
  obtain ⟨k', hk', he⟩ := X.warmed.alike.2.2 _ _ hk
  have hr' : k'.resolved[index]? = some (some (.string a)) := by
    rcases X.warmed.entry hk hk' index with z | ⟨z, -⟩
    · rw [z]; exact hr
    · rw [hr] at z; cases z
  intro target hrest
  subst hg
  jvm_step X.here [hexec, hdg, ldc_w.wp_string (e := e) (s := T) (f := f) X.here.top hk' (by rw [he]; exact hcf) hcp hr']
  exact hrest
theorem sw_ldcwS {cc : ByteArray} {H : Heap} {locs : List Loc} {cells slots : Nat} {ls : Array Slot} {rest : List Value} (hexec : p.tables.exec = Jvm.exec) (hb : c.code = cc) {own tx : String} {index q : Nat} (hown : s.vm.findClass own = some m.cls) (hZ : vk_R own index tx q s) (hdg : decode cc pc = .ok (.ldc_w index, 3))
    (k : W p l e R s m args below meth c H locs cells slots Q (F0 m (pc + 3) ls (.ref q :: rest))) : W p l e R s m args below meth c H locs cells slots Q (F0 m pc ls rest) := by
  intro T hT X
  obtain ⟨t, a1, b1⟩ := k T hT X
  exact ⟨t, sw_ldcwT X hexec hown (text := tx) (a := q) hZ.1 hZ.2 (f := F0 m pc ls rest) rfl (by rw [hb]; exact hdg) t a1, b1⟩
set_option maxHeartbeats 4000000 in
theorem pm_simple_ok (OK : pm_ok T G Ns) (hC : pm_C T G Ns D aC b k p s m args meth c) (hfr : R.frames = fr) (hlo : R.locals = lo) (hs0 : s.heap.size = b + sz0 + g) (hg : g = 0 ∨ st'.2.2.2.2.1 = sz0) (h0 : sz0 ≤ sz) (h1 : sl0 ≤ sl) (hmc : sz ≤ st'.2.2.2.2.1) (hms : sl ≤ st'.2.2.2.2.2) (hRc : st'.2.2.2.2.1 ≤ sz0 + R.cells) (hRs : st'.2.2.2.2.2 ≤ sl0 + R.slots)
    {i : Instr} {len : Nat} (hlen : pm_lenOk i len = true) (hd : decode (pm_code T k) pc = .ok (i, len)) (hh : pm_simple T fr lo k i pc L S h sz sl = some st')
    (kk : pm_V p l e R s m args below meth c Q T D aC b k sz0 sl0 st') : pm_V p l e R s m args below meth c Q T D aC b k sz0 sl0 (pc, L, S, h, sz, sl) := by
  have hx := hC.1
  have hb := hC.2.1
  have hml := hC.2.2.1
  have hown := hC.2.2.2.1
  have hts := hC.2.2.2.2.1
  have hK := hC.2.2.2.2.2.1
  cases i
  case iconst n =>
    have hl : len = 1 := eq_of_beq hlen
    subst hl
    cases hh
    intro H locs ls hP hS hl
    exact lv_iconst hx hb hd rfl (kk H locs ls hP hS hl)
  case bipush n =>
    have hl : len = 2 := eq_of_beq hlen
    subst hl
    cases hh
    intro H locs ls hP hS hl
    exact lv_bipush hx hb hd rfl (kk H locs ls hP hS hl)
  case sipush n =>
    have hl : len = 3 := eq_of_beq hlen
    subst hl
    cases hh
    intro H locs ls hP hS hl
    exact lv_sipush hx hb hd rfl (kk H locs ls hP hS hl)
  case lconst n =>
    have hl : len = 1 := eq_of_beq hlen
    subst hl
    cases hh
    intro H locs ls hP hS hl
    exact lv_lconst hx hb hd rfl (kk H locs ls hP hS hl)
  case ldc j =>
    have hl : len = 2 := eq_of_beq hlen
    subst hl
    dsimp only [pm_simple] at hh
    split at hh
    case h_2 =>
      split at hh
      case h_2 => cases hh
      case h_1 i e1 =>
      cases hh
      obtain ⟨tx, hR⟩ := hK.2.2.1 _ _ _ e1
      intro H locs ls hP hS hl
      exact va_ldcS hx hb hown hR hd (kk H locs ls hP hS hl)
    case h_1 v e1 =>
    cases hh
    intro H locs ls hP hS hl
    exact lv_ldc hx hb hown (hts _ (OK.2.2.2.2.2.2.2.1 _ _ _ e1)) hd (kk H locs ls hP hS hl)
  case ldc_w j =>
    have hl : len = 3 := eq_of_beq hlen
    subst hl
    dsimp only [pm_simple] at hh
    split at hh
    case h_2 =>
      split at hh
      case h_2 => cases hh
      case h_1 i e1 =>
      cases hh
      obtain ⟨tx, hR⟩ := hK.2.2.1 _ _ _ e1
      intro H locs ls hP hS hl
      exact sw_ldcwS hx hb hown hR hd (kk H locs ls hP hS hl)
    case h_1 v e1 =>
    cases hh
    intro H locs ls hP hS hl
    exact lv_ldcw hx hb hown (hts _ (OK.2.2.2.2.2.2.2.1 _ _ _ e1)) hd (kk H locs ls hP hS hl)
  case ldc2_w j =>
    have hl : len = 3 := eq_of_beq hlen
    subst hl
    dsimp only [pm_simple] at hh
    split at hh
    case h_2 => cases hh
    case h_1 v e1 =>
    cases hh
    intro H locs ls hP hS hl
    exact lv_ldc2 hx hb hown (hts _ (OK.2.2.2.2.2.2.2.2 _ _ _ e1)) hd (kk H locs ls hP hS hl)
  case iload j =>
    have hl : len = 2 := eq_of_beq hlen
    subst hl
    obtain ⟨v, e1, e2, rfl⟩ := pm_lo_inv hh
    obtain ⟨x, rfl⟩ := pm_isT_0 e2
    intro H locs ls hP hS hl
    exact lv_iload hx hb hd (hl.2.2 _ _ e1) (kk H locs ls hP hS hl)
  case iload_n j =>
    have hl : len = 1 := eq_of_beq hlen
    subst hl
    obtain ⟨v, e1, e2, rfl⟩ := pm_lo_inv hh
    obtain ⟨x, rfl⟩ := pm_isT_0 e2
    intro H locs ls hP hS hl
    exact lv_iload_n hx hb hd rfl (hl.2.2 _ _ e1) (kk H locs ls hP hS hl)
  case lload j =>
    have hl : len = 2 := eq_of_beq hlen
    subst hl
    obtain ⟨v, e1, e2, rfl⟩ := pm_lo_inv hh
    obtain ⟨x, rfl⟩ := pm_isT_1 e2
    intro H locs ls hP hS hl
    exact lv_lload hx hb hd (hl.2.2 _ _ e1) (kk H locs ls hP hS hl)
  case lload_n j =>
    have hl : len = 1 := eq_of_beq hlen
    subst hl
    obtain ⟨v, e1, e2, rfl⟩ := pm_lo_inv hh
    obtain ⟨x, rfl⟩ := pm_isT_1 e2
    intro H locs ls hP hS hl
    exact lv_lload_n hx hb hd rfl (hl.2.2 _ _ e1) (kk H locs ls hP hS hl)
  case aload j =>
    have hl : len = 2 := eq_of_beq hlen
    subst hl
    obtain ⟨v, e1, e2, rfl⟩ := pm_lo_inv hh
    intro H locs ls hP hS hl
    obtain ⟨x, rfl | rfl⟩ := pm_isT_2 e2
    all_goals exact lv_aload hx hb hd (hl.2.2 _ _ e1) (kk H locs ls hP hS hl)
  case aload_n j =>
    have hl : len = 1 := eq_of_beq hlen
    subst hl
    obtain ⟨v, e1, e2, rfl⟩ := pm_lo_inv hh
    intro H locs ls hP hS hl
    obtain ⟨x, rfl | rfl⟩ := pm_isT_2 e2
    all_goals exact lv_aload_n hx hb hd rfl (hl.2.2 _ _ e1) (kk H locs ls hP hS hl)
  case istore j =>
    have hl : len = 2 := eq_of_beq hlen
    subst hl
    obtain ⟨v, r, rfl, e2, e3, rfl⟩ := pm_so_inv hh
    obtain ⟨x, rfl⟩ := pm_isT_0 e2
    intro H locs ls hP hS hl
    exact lv_istore hx hb hd hl.has e3 rfl (fun ls' hl' => kk H locs ls' hP hS (pm_loc.st1 hl'))
  case istore_n j =>
    have hl : len = 1 := eq_of_beq hlen
    subst hl
    obtain ⟨v, r, rfl, e2, e3, rfl⟩ := pm_so_inv hh
    obtain ⟨x, rfl⟩ := pm_isT_0 e2
    intro H locs ls hP hS hl
    exact lv_istore_n hx hb hd rfl hl.has e3 rfl (fun ls' hl' => kk H locs ls' hP hS (pm_loc.st1 hl'))
  case astore j =>
    have hl : len = 2 := eq_of_beq hlen
    subst hl
    obtain ⟨v, r, rfl, e2, e3, rfl⟩ := pm_so_inv hh
    intro H locs ls hP hS hl
    obtain ⟨x, rfl | rfl⟩ := pm_isT_2 e2
    all_goals exact lv_astore hx hb hd hl.has e3 rfl (fun ls' hl' => kk H locs ls' hP hS (pm_loc.st1 hl'))
  case astore_n j =>
    have hl : len = 1 := eq_of_beq hlen
    subst hl
    obtain ⟨v, r, rfl, e2, e3, rfl⟩ := pm_so_inv hh
    intro H locs ls hP hS hl
    obtain ⟨x, rfl | rfl⟩ := pm_isT_2 e2
    all_goals exact lv_astore_n hx hb hd rfl hl.has e3 rfl (fun ls' hl' => kk H locs ls' hP hS (pm_loc.st1 hl'))
  case lstore j =>
    have hl : len = 2 := eq_of_beq hlen
    subst hl
    obtain ⟨x, r, rfl, e3, rfl⟩ := pm_sL_inv hh
    intro H locs ls hP hS hl
    exact lv_lstore hx hb hd hl.has e3 rfl (fun ls' hl' => kk H locs ls' hP hS (pm_loc.st2 (v := .long x) hl'))
  case lstore_n j =>
    have hl : len = 1 := eq_of_beq hlen
    subst hl
    obtain ⟨x, r, rfl, e3, rfl⟩ := pm_sL_inv hh
    intro H locs ls hP hS hl
    exact lv_lstore_n hx hb hd rfl hl.has e3 rfl (fun ls' hl' => kk H locs ls' hP hS (pm_loc.st2 (v := .long x) hl'))
  case iinc j n =>
    have hl : len = 3 := eq_of_beq hlen
    subst hl
    dsimp only [pm_simple] at hh
    split at hh
    case h_2 => cases hh
    case h_1 x e1 =>
    split at hh
    case isFalse => cases hh
    case isTrue e3 =>
    cases hh
    intro H locs ls hP hS hl
    obtain ⟨q, hq, hq2⟩ := List.getElem_of_mem (pm_ll_mem (aC := aC) (b := b) e1)
    exact lv_iinc (k := q) (x := x) hx hb hd hl.has (by rw [List.getElem?_eq_getElem hq, hq2]; rfl) rfl e3 rfl (fun ls' hl' => kk H locs ls' hP hS (pm_loc.st1 (v := .int (x + Int32.ofInt n)) hl'))
  case iadd =>
    have hl : len = 1 := eq_of_beq hlen
    subst hl
    obtain ⟨x, y, r, rfl, rfl⟩ := pm_bi_inv hh
    intro H locs ls hP hS hl
    exact lv_iadd hx hb hd (kk H locs ls hP hS hl)
  case isub =>
    have hl : len = 1 := eq_of_beq hlen
    subst hl
    obtain ⟨x, y, r, rfl, rfl⟩ := pm_bi_inv hh
    intro H locs ls hP hS hl
    exact lv_isub hx hb hd (kk H locs ls hP hS hl)
  case imul =>
    have hl : len = 1 := eq_of_beq hlen
    subst hl
    obtain ⟨x, y, r, rfl, rfl⟩ := pm_bi_inv hh
    intro H locs ls hP hS hl
    exact lv_imul hx hb hd (kk H locs ls hP hS hl)
  case iand =>
    have hl : len = 1 := eq_of_beq hlen
    subst hl
    obtain ⟨x, y, r, rfl, rfl⟩ := pm_bi_inv hh
    intro H locs ls hP hS hl
    exact lv_iand hx hb hd (kk H locs ls hP hS hl)
  case ior =>
    have hl : len = 1 := eq_of_beq hlen
    subst hl
    obtain ⟨x, y, r, rfl, rfl⟩ := pm_bi_inv hh
    intro H locs ls hP hS hl
    exact lv_ior hx hb hd (kk H locs ls hP hS hl)
  case ixor =>
    have hl : len = 1 := eq_of_beq hlen
    subst hl
    obtain ⟨x, y, r, rfl, rfl⟩ := pm_bi_inv hh
    intro H locs ls hP hS hl
    exact lv_ixor hx hb hd (kk H locs ls hP hS hl)
  case ishl =>
    have hl : len = 1 := eq_of_beq hlen
    subst hl
    obtain ⟨x, y, r, rfl, rfl⟩ := pm_bi_inv hh
    intro H locs ls hP hS hl
    exact lv_ishl hx hb hd (kk H locs ls hP hS hl)
  case ishr =>
    have hl : len = 1 := eq_of_beq hlen
    subst hl
    obtain ⟨x, y, r, rfl, rfl⟩ := pm_bi_inv hh
    intro H locs ls hP hS hl
    exact lv_ishr hx hb hd (kk H locs ls hP hS hl)
  case iushr =>
    have hl : len = 1 := eq_of_beq hlen
    subst hl
    obtain ⟨x, y, r, rfl, rfl⟩ := pm_bi_inv hh
    intro H locs ls hP hS hl
    exact lv_iushr hx hb hd rfl (kk H locs ls hP hS hl)
  case idiv =>
    have hl : len = 1 := eq_of_beq hlen
    subst hl
    obtain ⟨x, y, r, rfl, hy, rfl⟩ := pm_bd_inv hh
    intro H locs ls hP hS hl
    exact lv_idiv hx hb hd hy (kk H locs ls hP hS hl)
  case irem =>
    have hl : len = 1 := eq_of_beq hlen
    subst hl
    obtain ⟨x, y, r, rfl, hy, rfl⟩ := pm_bd_inv hh
    intro H locs ls hP hS hl
    exact lv_irem hx hb hd hy (kk H locs ls hP hS hl)
  case ineg =>
    have hl : len = 1 := eq_of_beq hlen
    subst hl
    obtain ⟨x, r, rfl, rfl⟩ := pm_ui_inv hh
    intro H locs ls hP hS hl
    exact lv_ineg hx hb hd (kk H locs ls hP hS hl)
  case i2l =>
    have hl : len = 1 := eq_of_beq hlen
    subst hl
    obtain ⟨x, r, rfl, rfl⟩ := pm_ui_inv hh
    intro H locs ls hP hS hl
    exact lv_i2l hx hb hd rfl (kk H locs ls hP hS hl)
  case i2b =>
    have hl : len = 1 := eq_of_beq hlen
    subst hl
    obtain ⟨x, r, rfl, rfl⟩ := pm_ui_inv hh
    intro H locs ls hP hS hl
    exact lv_i2b hx hb hd rfl (kk H locs ls hP hS hl)
  case i2s =>
    have hl : len = 1 := eq_of_beq hlen
    subst hl
    obtain ⟨x, r, rfl, rfl⟩ := pm_ui_inv hh
    intro H locs ls hP hS hl
    exact lv_i2s hx hb hd rfl (kk H locs ls hP hS hl)
  case i2c =>
    have hl : len = 1 := eq_of_beq hlen
    subst hl
    obtain ⟨x, r, rfl, rfl⟩ := pm_ui_inv hh
    intro H locs ls hP hS hl
    exact lv_i2c hx hb hd rfl (kk H locs ls hP hS hl)
  case lmul =>
    have hl : len = 1 := eq_of_beq hlen
    subst hl
    obtain ⟨x, y, r, rfl, rfl⟩ := pm_bl_inv hh
    intro H locs ls hP hS hl
    exact lv_lmul hx hb hd (kk H locs ls hP hS hl)
  case ladd =>
    have hl : len = 1 := eq_of_beq hlen
    subst hl
    obtain ⟨x, y, r, rfl, rfl⟩ := pm_bl_inv hh
    intro H locs ls hP hS hl
    exact lv_ladd hx hb hd (kk H locs ls hP hS hl)
  case lsub =>
    have hl : len = 1 := eq_of_beq hlen
    subst hl
    obtain ⟨x, y, r, rfl, rfl⟩ := pm_bl_inv hh
    intro H locs ls hP hS hl
    exact lv_lsub hx hb hd (kk H locs ls hP hS hl)
  case ldiv =>
    have hl : len = 1 := eq_of_beq hlen
    subst hl
    obtain ⟨x, y, r, rfl, hy, rfl⟩ := pm_bdL_inv hh
    intro H locs ls hP hS hl
    exact lv_ldiv hx hb hd hy (kk H locs ls hP hS hl)
  case lrem =>
    have hl : len = 1 := eq_of_beq hlen
    subst hl
    obtain ⟨x, y, r, rfl, hy, rfl⟩ := pm_bdL_inv hh
    intro H locs ls hP hS hl
    exact lv_lrem hx hb hd hy (kk H locs ls hP hS hl)
  case lcmp =>
    have hl : len = 1 := eq_of_beq hlen
    subst hl
    dsimp only [pm_simple] at hh
    split at hh
    case h_2 => cases hh
    case h_1 y x r =>
    cases hh
    intro H locs ls hP hS hl
    exact W.lcmp hx hb hd (kk H locs ls hP hS hl)
  case dup =>
    have hl : len = 1 := eq_of_beq hlen
    subst hl
    dsimp only [pm_simple] at hh
    split at hh
    case h_2 => cases hh
    case h_1 v r =>
    split at hh
    case isFalse => cases hh
    case isTrue e1 =>
    cases hh
    intro H locs ls hP hS hl
    exact lv_dup hx hb hd (by rw [pm_cat]; exact e1) (kk H locs ls hP hS hl)
  case pop =>
    have hl : len = 1 := eq_of_beq hlen
    subst hl
    dsimp only [pm_simple] at hh
    split at hh
    case h_2 => cases hh
    case h_1 v r =>
    split at hh
    case isFalse => cases hh
    case isTrue e1 =>
    cases hh
    intro H locs ls hP hS hl
    exact lv_pop hx hb hd (by rw [pm_cat]; exact e1) (kk H locs ls hP hS hl)
  case dup_x1 =>
    have hl : len = 1 := eq_of_beq hlen
    subst hl
    dsimp only [pm_simple] at hh
    split at hh
    case h_2 => cases hh
    case h_1 v w r =>
    split at hh
    case isFalse => cases hh
    case isTrue e1 =>
    cases hh
    intro H locs ls hP hS hl
    exact lv_dup_x1 hx hb hd (by rw [pm_cat]; exact e1.1) (by rw [pm_cat]; exact e1.2) (kk H locs ls hP hS hl)
  case dup_x2 =>
    have hl : len = 1 := eq_of_beq hlen
    subst hl
    dsimp only [pm_simple] at hh
    split at hh
    case h_2 => cases hh
    case h_1 v w z r =>
    split at hh
    case isFalse => cases hh
    case isTrue e1 =>
    cases hh
    intro H locs ls hP hS hl
    exact lv_dup_x2 hx hb hd (by rw [pm_cat]; exact e1.1) (by rw [pm_cat]; exact e1.2.1) (by rw [pm_cat]; exact e1.2.2) (kk H locs ls hP hS hl)
  case dup2 =>
    have hl : len = 1 := eq_of_beq hlen
    subst hl
    dsimp only [pm_simple] at hh
    split at hh
    case h_2 => cases hh
    case h_1 v w r =>
    split at hh
    case isFalse => cases hh
    case isTrue e1 =>
    cases hh
    intro H locs ls hP hS hl
    exact lv_dup2_11 hx hb hd (by rw [pm_cat]; exact e1.1) (by rw [pm_cat]; exact e1.2) (kk H locs ls hP hS hl)
  case ifCond cd off =>
    have hl : len = 3 := eq_of_beq hlen
    subst hl
    dsimp only [pm_simple] at hh
    split at hh
    case h_2 => cases hh
    case h_1 x r =>
    obtain ⟨t, e2, ⟨e1, rfl⟩ | ⟨e1, rfl⟩⟩ := pm_br_inv hh
    · intro H locs ls hP hS hl
      cases cd with
      | eq => exact lv_if_eq hx hb hd e2 (fun _ => kk H locs ls hP hS hl) (fun q => absurd (of_decide_eq_true e1) q)
      | ne => exact lv_if_ne hx hb hd e2 (fun _ => kk H locs ls hP hS hl) (fun q => absurd q (of_decide_eq_true e1))
      | lt => exact lv_if_lt hx hb hd e2 (fun _ => kk H locs ls hP hS hl) (fun q => absurd (of_decide_eq_true e1) q)
      | ge => exact lv_if_ge hx hb hd e2 (fun _ => kk H locs ls hP hS hl) (fun q => absurd (of_decide_eq_true e1) q)
      | gt => exact lv_if_gt hx hb hd e2 (fun _ => kk H locs ls hP hS hl) (fun q => absurd (of_decide_eq_true e1) q)
      | le => exact lv_if_le hx hb hd e2 (fun _ => kk H locs ls hP hS hl) (fun q => absurd (of_decide_eq_true e1) q)
    · intro H locs ls hP hS hl
      cases cd with
      | eq => exact lv_if_eq hx hb hd e2 (fun q => absurd q (of_decide_eq_false e1)) (fun _ => kk H locs ls hP hS hl)
      | ne => exact lv_if_ne hx hb hd e2 (fun q => absurd q (of_decide_eq_false e1)) (fun _ => kk H locs ls hP hS hl)
      | lt => exact lv_if_lt hx hb hd e2 (fun q => absurd q (of_decide_eq_false e1)) (fun _ => kk H locs ls hP hS hl)
      | ge => exact lv_if_ge hx hb hd e2 (fun q => absurd q (of_decide_eq_false e1)) (fun _ => kk H locs ls hP hS hl)
      | gt => exact lv_if_gt hx hb hd e2 (fun q => absurd q (of_decide_eq_false e1)) (fun _ => kk H locs ls hP hS hl)
      | le => exact lv_if_le hx hb hd e2 (fun q => absurd q (of_decide_eq_false e1)) (fun _ => kk H locs ls hP hS hl)
  case if_icmp cd off =>
    have hl : len = 3 := eq_of_beq hlen
    subst hl
    dsimp only [pm_simple] at hh
    split at hh
    case h_2 => cases hh
    case h_1 y x r =>
    obtain ⟨t, e2, ⟨e1, rfl⟩ | ⟨e1, rfl⟩⟩ := pm_br_inv hh
    · intro H locs ls hP hS hl
      cases cd with
      | eq => exact lv_icmp_eq hx hb hd e2 (fun _ => kk H locs ls hP hS hl) (fun q => absurd (of_decide_eq_true e1) q)
      | ne => exact lv_icmp_ne hx hb hd e2 (fun _ => kk H locs ls hP hS hl) (fun q => absurd q (of_decide_eq_true e1))
      | lt => exact lv_icmp_lt hx hb hd e2 (fun _ => kk H locs ls hP hS hl) (fun q => absurd (of_decide_eq_true e1) q)
      | ge => exact lv_icmp_ge hx hb hd e2 (fun _ => kk H locs ls hP hS hl) (fun q => absurd (of_decide_eq_true e1) q)
      | gt => exact lv_icmp_gt hx hb hd e2 (fun _ => kk H locs ls hP hS hl) (fun q => absurd (of_decide_eq_true e1) q)
      | le => exact lv_icmp_le hx hb hd e2 (fun _ => kk H locs ls hP hS hl) (fun q => absurd (of_decide_eq_true e1) q)
    · intro H locs ls hP hS hl
      cases cd with
      | eq => exact lv_icmp_eq hx hb hd e2 (fun q => absurd q (of_decide_eq_false e1)) (fun _ => kk H locs ls hP hS hl)
      | ne => exact lv_icmp_ne hx hb hd e2 (fun q => absurd q (of_decide_eq_false e1)) (fun _ => kk H locs ls hP hS hl)
      | lt => exact lv_icmp_lt hx hb hd e2 (fun q => absurd q (of_decide_eq_false e1)) (fun _ => kk H locs ls hP hS hl)
      | ge => exact lv_icmp_ge hx hb hd e2 (fun q => absurd q (of_decide_eq_false e1)) (fun _ => kk H locs ls hP hS hl)
      | gt => exact lv_icmp_gt hx hb hd e2 (fun q => absurd q (of_decide_eq_false e1)) (fun _ => kk H locs ls hP hS hl)
      | le => exact lv_icmp_le hx hb hd e2 (fun q => absurd q (of_decide_eq_false e1)) (fun _ => kk H locs ls hP hS hl)
  case goto off =>
    have hl : len = 3 := eq_of_beq hlen
    subst hl
    obtain ⟨t, e2, rfl⟩ := pm_jp_inv hh
    intro H locs ls hP hS hl
    exact lv_goto hx hb hd e2 (kk H locs ls hP hS hl)
  case tableswitch d lo1 hi1 offs =>
    dsimp only [pm_simple] at hh
    split at hh
    case h_2 => cases hh
    case h_1 x r =>
    split at hh
    case isTrue e1 =>
      obtain ⟨t, e2, rfl⟩ := pm_jp_inv hh
      intro H locs ls hP hS hl
      exact lv_tableOut hx hb hd e1 e2 (kk H locs ls hP hS hl)
    case isFalse e1 =>
      split at hh
      case h_2 => cases hh
      case h_1 off e3 =>
      obtain ⟨t, e2, rfl⟩ := pm_jp_inv hh
      intro H locs ls hP hS hl
      exact lv_tableIn hx hb hd (fun q => e1 (Or.inl q)) (fun q => e1 (Or.inr q)) e3 e2 (kk H locs ls hP hS hl)
  case lookupswitch d ps =>
    dsimp only [pm_simple] at hh
    split at hh
    case h_2 => cases hh
    case h_1 x r =>
    split at hh
    case isFalse => cases hh
    case isTrue e1 =>
      obtain ⟨t, e2, rfl⟩ := pm_jp_inv hh
      intro H locs ls hP hS hl
      exact lv_lookup hx hb hd e1 rfl e2 (kk H locs ls hP hS hl)
  case getfield j =>
    have hl : len = 3 := eq_of_beq hlen
    subst hl
    exact pm_getfield OK hC hd hh kk
  case putfield j =>
    have hl : len = 3 := eq_of_beq hlen
    subst hl
    exact pm_putfield OK hC hd hh kk
  case iaload =>
    have hl : len = 1 := eq_of_beq hlen
    subst hl
    exact pm_iald hC (fun H locs ls a kd n f i r q1 q2 q3 q4 q5 => va_iald hx hb hK.1 q1 a kd q2 q3 q4 hd q5) hh kk
  case caload =>
    have hl : len = 1 := eq_of_beq hlen
    subst hl
    exact pm_iald hC (fun H locs ls a kd n f i r q1 q2 q3 q4 q5 => va_cald hx hb hK.1 q1 a kd q2 q3 q4 hd q5) hh kk
  case baload =>
    have hl : len = 1 := eq_of_beq hlen
    subst hl
    exact pm_iald hC (fun H locs ls a kd n f i r q1 q2 q3 q4 q5 => va_zald hx hb hK.1 q1 a kd q2 q3 q4 hd q5) hh kk
  case bastore =>
    have hl : len = 1 := eq_of_beq hlen
    subst hl
    exact pm_iast hC (fun H locs ls a kd n f x i r q1 q2 q3 q4 q5 q6 q7 => va_zast hx hb hK.1 q1 q2 q3 a kd q4 q5 q6 hd q7) hh kk
  case laload =>
    have hl : len = 1 := eq_of_beq hlen
    subst hl
    exact pm_lald hC hd hh kk
  case aaload =>
    have hl : len = 1 := eq_of_beq hlen
    subst hl
    exact pm_aald hC hd hh kk
  case iastore =>
    have hl : len = 1 := eq_of_beq hlen
    subst hl
    exact pm_iast hC (fun H locs ls a kd n f x i r q1 q2 q3 q4 q5 q6 q7 => va_iast hx hb hK.1 q1 q2 q3 a kd q4 q5 q6 hd q7) hh kk
  case castore =>
    have hl : len = 1 := eq_of_beq hlen
    subst hl
    exact pm_iast hC (fun H locs ls a kd n f x i r q1 q2 q3 q4 q5 q6 q7 => va_cast hx hb hK.1 q1 q2 q3 a kd q4 q5 q6 hd q7) hh kk
  case lastore =>
    have hl : len = 1 := eq_of_beq hlen
    subst hl
    exact pm_last hC hd hh kk
  case aastore =>
    have hl : len = 1 := eq_of_beq hlen
    subst hl
    exact pm_aast hC hd hh kk
  case arraylength =>
    have hl : len = 1 := eq_of_beq hlen
    subst hl
    exact pm_alen hC hd hh kk
  case newarray at_ =>
    have hl : len = 2 := eq_of_beq hlen
    subst hl
    cases at_
    case float => cases hh
    case double => cases hh
    case byte => cases hh
    case short => cases hh
    case int =>
      dsimp only [pm_simple, pm_newI] at hh
      split at hh
      case h_2 => cases hh
      case h_1 n r =>
      split at hh
      case h_2 => cases hh
      case h_1 kd e1 =>
      split at hh
      case isFalse => cases hh
      case isTrue e2 =>
      unfold pm_nw at hh
      cases hh
      exact pm_newarr (at_ := .int) (ty := .int) OK hC hs0 (by dsimp only at hg; omega) h0 h1 rfl (fun C q => by cases q) (by decide) (fun cA => rfl) rfl e1 e2.1 e2.2 hd hRc hRs kk
    case char =>
      dsimp only [pm_simple, pm_newI] at hh
      split at hh
      case h_2 => cases hh
      case h_1 n r =>
      split at hh
      case h_2 => cases hh
      case h_1 kd e1 =>
      split at hh
      case isFalse => cases hh
      case isTrue e2 =>
      unfold pm_nw at hh
      cases hh
      exact pm_newarr (at_ := .char) (ty := .char) OK hC hs0 (by dsimp only at hg; omega) h0 h1 rfl (fun C q => by cases q) (by decide) (fun cA => rfl) rfl e1 e2.1 e2.2 hd hRc hRs kk
    case boolean =>
      dsimp only [pm_simple, pm_newI] at hh
      split at hh
      case h_2 => cases hh
      case h_1 n r =>
      split at hh
      case h_2 => cases hh
      case h_1 kd e1 =>
      split at hh
      case isFalse => cases hh
      case isTrue e2 =>
      unfold pm_nw at hh
      cases hh
      exact pm_newarr (at_ := .boolean) (ty := .boolean) OK hC hs0 (by dsimp only at hg; omega) h0 h1 rfl (fun C q => by cases q) (by decide) (fun cA => rfl) rfl e1 e2.1 e2.2 hd hRc hRs kk
    case long =>
      dsimp only [pm_simple, pm_newL] at hh
      split at hh
      case h_2 => cases hh
      case h_1 n r =>
      split at hh
      case h_2 => cases hh
      case h_1 kd e1 =>
      split at hh
      case isFalse => cases hh
      case isTrue e2 =>
      unfold pm_nw at hh
      cases hh
      exact pm_newarr (at_ := .long) (ty := .long) OK hC hs0 (by dsimp only at hg; omega) h0 h1 rfl (fun C q => by cases q) (by decide) (fun cA => rfl) rfl e1 e2.1 e2.2 hd hRc hRs kk
  case anewarray j =>
    have hl : len = 3 := eq_of_beq hlen
    subst hl
    exact pm_newqarr OK hC hs0 hg h0 h1 hd hh hRc hRs kk
  case new j =>
    have hl : len = 3 := eq_of_beq hlen
    subst hl
    exact pm_newobj OK hC hs0 hg h0 h1 hd hh hRc hRs kk
  case invokespecial j =>
    have hl : len = 3 := eq_of_beq hlen
    subst hl
    exact pm_libOk (sp := true) OK hC hfr hlo (by omega) (by omega) hd hh kk
  case invokestatic j =>
    have hl : len = 3 := eq_of_beq hlen
    subst hl
    exact pm_libOk (sp := false) OK hC hfr hlo (by omega) (by omega) hd hh kk
  case invokevirtual j =>
    have hl : len = 3 := eq_of_beq hlen
    subst hl
    exact pm_libVOk OK hC hfr hlo (by omega) (by omega) hd hh kk
  all_goals cases hh
end PMO
end MG15cstrx1
end MH00listsx9
section MH00listsx10
/-! calls, and the soundness of a whole run -/
section PMM
variable {T : pm_Tab} {k fr lo pc sz sl : Nat} {L : pm_L} {S : List Value} {h : pm_H} {st' : pm_St}
set_option maxHeartbeats 4000000 in
theorem pm_simple_mono {i : Instr} (hh : pm_simple T fr lo k i pc L S h sz sl = some st') : sz ≤ st'.2.2.2.2.1 ∧ sl ≤ st'.2.2.2.2.2 := by
  unfold pm_simple at hh
  split at hh
  all_goals (try simp only [pm_bi, pm_bd, pm_bl, pm_bdL, pm_ui, pm_lo, pm_so, pm_sL, pm_jp, pm_br, pm_ia, pm_iS, pm_la, pm_lS, pm_qa, pm_qS, pm_al, pm_gf, pm_pf, pm_nw, pm_newI, pm_newL, pm_newQ, pm_newO, pm_libW, pm_libV, pm_lib] at hh)
  all_goals (repeat' split at hh)
  all_goals (first | (cases hh; done) | (cases hh; dsimp only; omega))
end PMM
section PMR
variable {p : Program} {l : Launch} {e : Env} {R : Room} {s : State} {m : MethodId} {args : Array Value} {below : List Frame} {meth : Method} {c : Code} {H : Heap} {locs : List Loc} {cells slots : Nat} {Q : State → Prop}
variable {T : pm_Tab} {G Ns : List Cond} {D : va_G} {aC : Nat → ClassId} {b g k fr lo pc sz sl sz0 sl0 : Nat} {L : pm_L} {S : List Value} {h : pm_H} {st' : pm_St}
/-- a call of a method of the tables -/
theorem pm_call (OK : pm_ok T G Ns) (hC : pm_C T G Ns D aC b k p s m args meth c) (hfr : R.frames = fr) (hlo : R.locals = lo) (hs0 : s.heap.size = b + sz0 + g) (hg : g = 0 ∨ sz = sz0) (h0 : sz0 ≤ sz) (h1 : sl0 ≤ sl) {i : Instr} (hd : decode (pm_code T k) pc = .ok (i, 3)) {w t : Nat} (hw : pm_callee T k i = some (w, t)) {r : pm_Rs} (hmc : sz ≤ r.2.2.1) (hms : sl ≤ r.2.2.2) (hRc : r.2.2.1 ≤ sz0 + R.cells) (hRs : r.2.2.2 ≤ sl0 + R.slots)
    (hna : pm_na T t ≤ S.length) (hrc : pm_rcv T w t (S.take (pm_na T t)).reverse h sz = true) (hsum : pm_sum (S.drop (pm_na T t)) ≤ 8) (hf1 : 1 ≤ fr) (hl1 : 19 + pm_max T t ≤ lo)
    (hM : pm_Met T G Ns l D aC b g (fr - 1) (lo - (19 + pm_max T t)) t (S.take (pm_na T t)).reverse h sz sl r)
    (kk : pm_V p l e R s m args below meth c Q T D aC b k sz0 sl0 (pc + 3, L, r.1.toList ++ S.drop (pm_na T t), r.2)) : pm_V p l e R s m args below meth c Q T D aC b k sz0 sl0 (pc, L, S, h, sz, sl) := by
  obtain ⟨hx, hb, hml, hown, hts, hK, -⟩ := hC
  intro H locs ls hP hS hl
  refine pm_sized fun hz => ?_
  dsimp only at hz hP hl
  have hsz := pm_size hS hP hs0 hg h0 hz
  have hbl : FrameBlind (pm_Pc T Ns D aC b g (S.take (pm_na T t)).reverse h sz) := pm_blind OK
  have hpre : ∀ U : State, U.heap = H → s.WarmedH U.vm → pm_Pc T Ns D aC b g (S.take (pm_na T t)).reverse h sz ((S.take (pm_na T t)).reverse.map (pm_tr aC b)).toArray U := fun U hU hW => ⟨rfl, by rw [hU]; exact hsz, by rw [hU]; exact hP, hK.warm OK hW (by rw [hU]; exact hS)⟩
  have hroom : 2 * (F0 m pc ls (S.map (pm_tr aC b))).monitorRoom + (((S.drop (pm_na T t)).map (pm_tr aC b)).map fun v => v.category).sum ≤ 8 := lv_room (by rw [pm_sum_tr]; exact hsum)
  have hcs : sz - sz0 + (r.2.2.1 - sz) ≤ R.cells ∧ sl - sl0 + (r.2.2.2 - sl) ≤ R.slots := ⟨by omega, by omega⟩
  have hRR : (pm_rm (fr - 1) (lo - (19 + pm_max T t)) (r.2.2.1 - sz) (r.2.2.2 - sl)).frames + 1 ≤ R.frames ∧ 8 + (pm_max T t + 11) + (pm_rm (fr - 1) (lo - (19 + pm_max T t)) (r.2.2.1 - sz) (r.2.2.2 - sl)).locals ≤ R.locals := by
    dsimp only
    omega
  have hlen : (S.take (pm_na T t)).reverse.length = pm_na T t := by rw [List.length_reverse, List.length_take]; omega
  have fin : ∀ (H1 : Heap) (locs1 : List Loc), va_P D (pm_cl T) (pm_w aC b r.2.1 r.2.2.1) H1 → va_S (fun q => b ≤ q) s.heap H1 locs1 → W p l e R s m args below meth c H1 locs1 (sz - sz0 + (r.2.2.1 - sz)) (sl - sl0 + (r.2.2.2 - sl)) Q (F0 m (pc + 3) ls ((r.1.map (pm_tr aC b)).toList ++ (S.drop (pm_na T t)).map (pm_tr aC b))) := by
    intro H1 locs1 hP1 hS1
    have hW := kk H1 locs1 ls hP1 hS1 hl
    dsimp only at hW
    rw [List.map_append] at hW
    have e1 : (r.1.toList).map (pm_tr aC b) = (r.1.map (pm_tr aC b)).toList := by cases r.1 <;> rfl
    rw [e1] at hW
    exact W.cs (by omega) (by omega) hW
  unfold pm_callee at hw
  split at hw
  case h_4 => cases hw
  case h_1 j =>
    split at hw
    case h_3 => cases hw
    case h_2 t' e1 => cases hw; exact absurd (OK.2.2.2.2.1 _ _ _ _ e1) (fun q => q)
    case h_1 t' e1 =>
    cases hw
    obtain ⟨⟨m1, m2, m3, m4, m5, m6⟩, w1, w2, w3, ⟨n, w4, w5⟩, F, N, w6⟩ := OK.2.2.2.2.1 _ _ _ _ e1
    unfold pm_rcv at hrc
    rw [if_neg (by omega)] at hrc
    split at hrc
    case h_2 => cases hrc
    case h_1 a A1 hA =>
    split at hrc
    case h_2 => cases hrc
    case h_1 ci fs e2 =>
    have hci := eq_of_beq hrc
    subst hci
    obtain ⟨ha, hcell⟩ := pm_obj_inv e2
    rw [hA] at hM hpre hbl
    refine pm_after (va_runV (As := A1.map (pm_tr aC b)) (rest := (S.drop (pm_na T t)).map (pm_tr aC b)) ⟨hx, hb, hml, hown, hts⟩ hM (cwV n hts (pm_good OK ?_) rfl rfl rfl ⟨rfl, m5.1, m5.2, w5⟩ hRR) ⟨hbl, va_recv hK.1 hP w6 (pm_w_P hP ha hcell), hpre⟩ rfl ?_ hl.1 (pm_stackV hA) hroom hd hcs) hS fin
    · intro w hw
      simp only [wsV, pm_ws, List.mem_append, List.mem_cons, List.not_mem_nil, or_false] at hw
      rcases hw with (rfl | rfl | rfl | rfl) | rfl | hw
      · exact w1
      · exact w2
      · exact w3
      · exact m4
      · exact m3
      · exact hw
    · rw [hA, List.length_cons] at hlen
      rw [List.length_map]
      omega
  case h_2 j =>
    split at hw
    case h_3 => cases hw
    case h_1 t' e1 =>
      cases hw
      obtain ⟨⟨m1, m2, m3, m4, m5, m6⟩, w1, w2, w3⟩ := OK.2.2.2.2.1 _ _ _ _ e1
      refine pm_after (va_runS (As := (S.take (pm_na T t)).reverse.map (pm_tr aC b)) (rest := (S.drop (pm_na T t)).map (pm_tr aC b)) ⟨hx, hb, hml, hown, hts⟩ hM (va_cwS (pm_na T t) hts (pm_good OK ?_) rfl rfl rfl ⟨m5.1, m5.2, w3⟩ hRR) ⟨hbl, hpre⟩ rfl (by rw [List.length_map]; exact hlen) hl.1 (pm_stackS S _) hroom hd hcs) hS fin
      intro w hw
      simp only [va_wsS, pm_ws, List.mem_append, List.mem_cons, List.not_mem_nil, or_false] at hw
      rcases hw with (rfl | rfl | rfl) | rfl | hw
      · exact w1
      · exact w2
      · exact m4
      · exact m3
      · exact hw
    case h_2 t' e1 =>
      cases hw
      obtain ⟨⟨m1, m2, m3, m4, m5, m6⟩, ⟨host, w1⟩, w2, w3⟩ := OK.2.2.2.2.1 _ _ _ _ e1
      refine pm_after (va_runSN (As := (S.take (pm_na T t)).reverse.map (pm_tr aC b)) (rest := (S.drop (pm_na T t)).map (pm_tr aC b)) ⟨hx, hb, hml, hown, hts⟩ hM ⟨va_cnB (pm_na T t) hts (pm_good OK ?_) rfl rfl rfl (hK.2.1 _ w1) (hts _ m4) ⟨m5.1, m5.2, w3⟩ hRR, hts _ w2, trivial⟩ ⟨hbl, hpre⟩ rfl (by rw [List.length_map]; exact hlen) hl.1 (pm_stackS S _) hroom hd hcs) hS fin
      intro w hw
      simp only [pm_ws, List.mem_cons] at hw
      rcases hw with rfl | hw
      · exact m3
      · exact hw
  case h_3 j =>
    have hA : ∃ a A1, (S.take (pm_na T t)).reverse = .ref a :: A1 := by
      unfold pm_rcv at hrc
      split at hrc
      · split at hw
        · rename_i q _ _ _; cases hw; omega
        · rename_i q _ _ _; cases hw; omega
        · cases hw
      · split at hrc
        · rename_i a A1 hA; exact ⟨a, A1, hA⟩
        · cases hrc
    obtain ⟨a, A1, hA⟩ := hA
    rw [hA] at hM hpre hbl
    have hl2 : ∀ n, pm_na T t = n + 1 → (A1.map (pm_tr aC b)).length = n := by
      intro n hn
      rw [hA, List.length_cons] at hlen
      rw [List.length_map]
      omega
    have hgd : pm_okM T G t → GoodIn G (pm_ws T G t) := fun hm => pm_good OK (fun w hw => by
      simp only [pm_ws, List.mem_cons] at hw
      rcases hw with rfl | hw
      · exact hm.2.2.1
      · exact hw)
    split at hw
    case h_3 => cases hw
    case h_1 t' e1 =>
      cases hw
      obtain ⟨hm, w1, w2, w3, w0, n, w4, w5⟩ := OK.2.2.2.2.1 _ _ _ _ e1
      have hg := hgd hm
      obtain ⟨m1, m2, m3, m4, m5, m6⟩ := hm
      exact pm_after (va_runI (b := b + a) (As := A1.map (pm_tr aC b)) (rest := (S.drop (pm_na T t)).map (pm_tr aC b)) ⟨hx, hb, hml, hown, hts⟩ hM (cwI n hts hg (by rw [← w0]; rfl) rfl rfl (hts _ m4) (hts _ w1) (hts _ w2) w3 ⟨m5.1, m5.2, w5⟩ hRR) ⟨hbl, hpre⟩ rfl (hl2 n w4) hl.1 (pm_stackV hA) hroom hd hcs) hS fin
    case h_2 t' e1 =>
      cases hw
      obtain ⟨hm, ⟨host, w1⟩, w2, w3, w0, n, w4, w5⟩ := OK.2.2.2.2.1 _ _ _ _ e1
      have hg := hgd hm
      obtain ⟨m1, m2, m3, m4, m5, m6⟩ := hm
      exact pm_after (va_runIN (b := b + a) (As := A1.map (pm_tr aC b)) (rest := (S.drop (pm_na T t)).map (pm_tr aC b)) ⟨hx, hb, hml, hown, hts⟩ hM ⟨va_cnB n hts hg (by rw [← w0]; rfl) rfl rfl (hK.2.1 _ w1) (hts _ m4) ⟨m5.1, m5.2, w5⟩ hRR, w3, hts _ w2⟩ ⟨hbl, hpre⟩ rfl (hl2 n w4) hl.1 (pm_stackV hA) hroom hd hcs) hS fin
end PMR
end MH00listsx10
section MH00listsx11
section MG18runx0
/-! the soundness of a whole run -/
section PMX
variable {p : Program} {l : Launch} {e : Env} {R : Room} {s : State} {m : MethodId} {args : Array Value} {below : List Frame} {meth : Method} {c : Code} {Q : State → Prop}
variable {T : pm_Tab} {G Ns : List Cond} {D : va_G} {aC : Nat → ClassId} {b g k fr lo sz0 sl0 : Nat} {st st' : pm_St}
theorem pm_step_mono {go : Nat → Nat → Nat → List Value → pm_H → Nat → Nat → Option pm_Rs} (hgo : ∀ fr lo t as h sz sl r, go fr lo t as h sz sl = some r → sz ≤ r.2.2.1 ∧ sl ≤ r.2.2.2) (e2 : pm_step T go fr lo k st = some st') : st.2.2.2.2.1 ≤ st'.2.2.2.2.1 ∧ st.2.2.2.2.2 ≤ st'.2.2.2.2.2 := by
  unfold pm_step at e2
  split at e2
  · cases e2
  · split at e2
    · split at e2
      · split at e2
        · split at e2
          · rename_i e3
            cases e2
            exact hgo _ _ _ _ _ _ _ _ e3
          · cases e2
        · cases e2
      · exact pm_simple_mono e2
    · cases e2
theorem pm_mono : ∀ (n fr lo k : Nat) (st : pm_St) (r : pm_Rs), pm_run T n fr lo k st = some r → st.2.2.2.2.1 ≤ r.2.2.1 ∧ st.2.2.2.2.2 ≤ r.2.2.2
  | 0, _, _, _, _, _, h => by cases h
  | n + 1, fr, lo, k, st, r, h => by
    unfold pm_run at h
    split at h
    · rename_i r' e1
      cases h
      unfold pm_end at e1
      split at e1
      · cases e1
      · split at e1
        · split at e1
          · cases e1; exact ⟨Nat.le_refl _, Nat.le_refl _⟩
          · cases e1
        · cases e1
    · split at h
      · rename_i st' e2
        have ih := pm_mono n fr lo k st' r h
        have h2 := pm_step_mono (fun fr lo t as h sz sl r q => pm_mono n _ _ _ _ _ q) e2
        omega
      · cases h
theorem pm_okM_of (OK : pm_ok T G Ns) {o j w t : Nat} (h : pm_mlk T o j = some (w, t)) (hw : w < 6) : pm_okM T G t := by
  have hk := OK.2.2.2.2.1 _ _ _ _ h
  match w, hw, hk with
  | 0, _, hk => exact hk.1
  | 1, _, hk => exact hk.elim
  | 2, _, hk => exact hk.1
  | 3, _, hk => exact hk.1
  | 4, _, hk => exact hk.1
  | 5, _, hk => exact hk.1
/-- one step, given that callees are sound -/
theorem pm_step_ok (OK : pm_ok T G Ns) (hC : pm_C T G Ns D aC b k p s m args meth c) (hfr : R.frames = fr) (hlo : R.locals = lo) (hs0 : s.heap.size = b + sz0 + g) (hg : g = 0 ∨ st'.2.2.2.2.1 = sz0) (h0 : sz0 ≤ st.2.2.2.2.1) (h1 : sl0 ≤ st.2.2.2.2.2) (hRc : st'.2.2.2.2.1 ≤ sz0 + R.cells) (hRs : st'.2.2.2.2.2 ≤ sl0 + R.slots)
    {go : Nat → Nat → Nat → List Value → pm_H → Nat → Nat → Option pm_Rs} (hgo : ∀ fr lo t as h sz sl r, pm_okM T G t → (pm_args as).length ≤ pm_max T t → go fr lo t as h sz sl = some r → sz ≤ r.2.2.1 ∧ sl ≤ r.2.2.2 ∧ ((g = 0 ∨ r.2.2.1 = sz) → pm_Met T G Ns l D aC b g fr lo t as h sz sl r))
    (hh : pm_step T go fr lo k st = some st')
    (kk : pm_V p l e R s m args below meth c Q T D aC b k sz0 sl0 st') : pm_V p l e R s m args below meth c Q T D aC b k sz0 sl0 st := by
  obtain ⟨pc, L, S, h, sz, sl⟩ := st
  unfold pm_step at hh
  dsimp only at hh h0 h1
  split at hh
  case h_1 => cases hh
  case h_2 i len e1 =>
  have hd := OK.1 _ _ _ _ e1
  split at hh
  case isFalse => cases hh
  case isTrue hlen =>
  split at hh
  case h_2 e2 =>
    have hm := pm_simple_mono hh
    exact pm_simple_ok OK hC hfr hlo hs0 hg h0 h1 hm.1 hm.2 hRc hRs hlen hd hh kk
  case h_1 w t e2 =>
  split at hh
  case isFalse => cases hh
  case isTrue hc =>
  obtain ⟨c1, c2, c3, c4, c5, c6⟩ := hc
  split at hh
  case h_2 => cases hh
  case h_1 rv h1' sz1 sl1 e3 =>
  cases hh
  dsimp only at hRc hRs
  have hx : ∃ o j, pm_mlk T o j = some (w, t) ∧ w < 6 ∧ len = 3 := by
    unfold pm_callee at e2
    split at e2
    case h_4 => cases e2
    case h_1 j =>
      split at e2
      case h_1 e3 => cases e2; exact ⟨_, _, e3, by omega, eq_of_beq hlen⟩
      case h_2 e3 => cases e2; exact ⟨_, _, e3, by omega, eq_of_beq hlen⟩
      case h_3 => cases e2
    case h_2 j =>
      split at e2
      case h_1 e3 => cases e2; exact ⟨_, _, e3, by omega, eq_of_beq hlen⟩
      case h_2 e3 => cases e2; exact ⟨_, _, e3, by omega, eq_of_beq hlen⟩
      case h_3 => cases e2
    case h_3 j =>
      split at e2
      case h_1 e3 => cases e2; exact ⟨_, _, e3, by omega, eq_of_beq hlen⟩
      case h_2 e3 => cases e2; exact ⟨_, _, e3, by omega, eq_of_beq hlen⟩
      case h_3 => cases e2
  obtain ⟨o, j, e4, hw6, rfl⟩ := hx
  obtain ⟨g1, g2, hM⟩ := hgo _ _ t _ _ _ _ _ (pm_okM_of OK e4 hw6) c6 e3
  dsimp only at g1 g2 hg
  exact pm_call (r := (rv, h1', sz1, sl1)) OK hC hfr hlo hs0 (by omega) h0 h1 hd e2 g1 g2 hRc hRs c1 c2 c3 c4 c5 (hM (by dsimp only; omega)) kk
/-- the method's end -/
theorem pm_end_ok (OK : pm_ok T G Ns) (hC : pm_C T G Ns D aC b k p s m args meth c) (hr : meth.sig.returnType = pm_ret T k) (hlocks : meth.locks = false) {r : pm_Rs} (hh : pm_end T k st = some r) : pm_V p l e R s m args below meth c (MQ below (pm_Qc T D aC b r.1 r.2.1 r.2.2.1) args s (r.2.2.1 - sz0) (r.2.2.2 - sl0) (fun q => b ≤ q)) T D aC b k sz0 sl0 st := by
  obtain ⟨pc, L, S, h, sz, sl⟩ := st
  unfold pm_end at hh
  dsimp only at hh
  split at hh
  case h_1 => cases hh
  case h_2 i len e1 =>
  have hd := OK.1 _ _ _ _ e1
  split at hh
  case isFalse => cases hh
  case isTrue hlen =>
  split at hh
  case h_2 => cases hh
  case h_1 rv e2 =>
  cases hh
  have hx := hC.1
  have hb := hC.2.1
  intro H locs ls hP hS hl
  unfold pm_rets at e2
  split at e2
  case h_4 => cases e2
  case h_1 =>
    have hl1 : len = 1 := eq_of_beq hlen
    subst hl1
    split at e2
    case h_2 => cases e2
    case h_1 e3 =>
    cases e2
    exact W.vret hx hb (by rw [hr]; exact e3) (fun t ht hW => ⟨rfl, by rw [ht]; exact hP, hS.F ht⟩) hS.2.2 hd hlocks
  case h_2 v =>
    have hl1 : len = 1 := eq_of_beq hlen
    subst hl1
    split at e2
    case h_3 => cases e2
    case h_1 e3 =>
      cases e2
      exact W.iret hx hb (by rw [hr]; exact e3) (fun t ht hW => ⟨rfl, by rw [ht]; exact hP, hS.F ht⟩) hS.2.2 hd hlocks
    case h_2 e3 =>
      split at e2
      case isFalse => cases e2
      case isTrue e4 =>
      cases e2
      exact W.zret hx hb (by rw [hr]; exact e3) (by rcases e4 with rfl | rfl <;> rfl) (fun t ht hW => ⟨rfl, by rw [ht]; exact hP, hS.F ht⟩) hS.2.2 hd hlocks
  case h_3 v =>
    have hl1 : len = 1 := eq_of_beq hlen
    subst hl1
    split at e2
    case h_2 => cases e2
    case h_1 e3 =>
    cases e2
    exact W.lret hx hb (by rw [hr]; exact e3) (fun t ht hW => ⟨rfl, by rw [ht]; exact hP, hS.F ht⟩) hS.2.2 hd hlocks
/-- callees with n steps are sound -/
def pm_Sd (T : pm_Tab) (G Ns : List Cond) (l : Launch) (D : va_G) (aC : Nat → ClassId) (b g n : Nat) : Prop := ∀ fr lo t as h sz sl r, pm_okM T G t → (g = 0 ∨ r.2.2.1 = sz) → (pm_args as).length ≤ pm_max T t → pm_run T n fr lo t (0, pm_l0 as (pm_max T t), [], h, sz, sl) = some r → pm_Met T G Ns l D aC b g fr lo t as h sz sl r
/-- a run, in any method that stands -/
theorem pm_run_ok (OK : pm_ok T G Ns) (hC : pm_C T G Ns D aC b k p s m args meth c) (hr : meth.sig.returnType = pm_ret T k) (hlk : meth.locks = false) (hfr : R.frames = fr) (hlo : R.locals = lo) (hs0 : s.heap.size = b + sz0 + g) {r : pm_Rs} (hg : g = 0 ∨ r.2.2.1 = sz0) (hRc : r.2.2.1 ≤ sz0 + R.cells) (hRs : r.2.2.2 ≤ sl0 + R.slots)
    (hQ : ∀ st, pm_V p l e R s m args below meth c (MQ below (pm_Qc T D aC b r.1 r.2.1 r.2.2.1) args s (r.2.2.1 - sz0) (r.2.2.2 - sl0) (fun q => b ≤ q)) T D aC b k sz0 sl0 st → pm_V p l e R s m args below meth c Q T D aC b k sz0 sl0 st) :
    ∀ (n : Nat), (∀ n', n' < n → pm_Sd T G Ns l D aC b g n') → ∀ st : pm_St, sz0 ≤ st.2.2.2.2.1 → sl0 ≤ st.2.2.2.2.2 → pm_run T n fr lo k st = some r → pm_V p l e R s m args below meth c Q T D aC b k sz0 sl0 st := by
  intro n
  induction n with
  | zero => intro _ st _ _ h; cases h
  | succ n ih2 =>
    intro ih st h0 h1 h
    unfold pm_run at h
    split at h
    · rename_i r' e1
      cases h
      exact hQ st (pm_end_ok OK hC hr hlk e1)
    · split at h
      · rename_i st' e2
        have hm := pm_mono _ _ _ _ _ _ h
        have hm2 := pm_step_mono (fun fr lo t as h sz sl r q => pm_mono n _ _ _ _ _ q) e2
        refine pm_step_ok OK hC hfr hlo hs0 (by omega) h0 h1 (by omega) (by omega) (fun fr lo t as h sz sl r q1 q2 q3 => ?_) e2 (ih2 (fun n' hn' => ih n' (by omega)) st' (by omega) (by omega) h)
        have hm3 := pm_mono _ _ _ _ _ _ q3
        exact ⟨hm3.1, hm3.2, fun hg => ih n (by omega) fr lo t as h sz sl r q1 hg q2 q3⟩
      · cases h
/-- THE PURE MACHINE IS SOUND -/
theorem pm_sound (OK : pm_ok T G Ns) : ∀ n, pm_Sd T G Ns l D aC b g n := by
  intro n
  induction n using Nat.strongRecOn with
  | _ n ih =>
    intro fr lo t as h sz sl r hm hg hlen hrun
    have hmn := pm_mono _ _ _ _ _ _ hrun
    dsimp only at hmn
    obtain ⟨m1, m2, m3, m4, m5, m6⟩ := hm
    refine Met.ofW (cc := pm_code T t) (maxL := pm_max T t) (ret := pm_ret T t) m1 rfl ?_
    intro p e s m args below meth c s₁ B hml hv
    obtain ⟨rfl, hsz, hP, hK⟩ := hv
    have hts := atoms_spec (ws := pm_ws T G t) B.pre
    have hown : s.vm.findClass (pm_y T t).cls = some m.cls := findClass_of_methodNamed B.named
    have hC : pm_C T G Ns D aC b t p s m (as.map (pm_tr aC b)).toArray meth c := ⟨B.exec, B.bytes, hml, by rw [m2]; exact hown, fun w hw => hts w (List.mem_cons_of_mem _ hw), hK, fun q => by rw [(name_of_methodNamed B.named B.method).1]; exact m6 q⟩
    have key := pm_run_ok (p := p) (l := l) (e := e) (R := (headSpec (pm_ws T G t) (pm_rm fr lo (r.2.2.1 - sz) (r.2.2.2 - sl))).room) (below := below) (b := b) (sz0 := sz) (sl0 := sl) (Q := MQ below (pm_Qc T D aC b r.1 r.2.1 r.2.2.1) (as.map (pm_tr aC b)).toArray s (r.2.2.1 - sz) (r.2.2.2 - sl) (fun q => b ≤ q)) OK hC B.returns B.notSynchronized rfl rfl hsz (r := r) hg (by show r.2.2.1 ≤ sz + (r.2.2.1 - sz); omega) (by show r.2.2.2 ≤ sl + (r.2.2.2 - sl); omega) (fun _ q => q) n ih (0, pm_l0 as (pm_max T t), [], h, sz, sl) (Nat.le_refl _) (Nat.le_refl _) hrun
    have hW := key s.heap [] _ hP va_S.rf (pm_l0_loc aC b as hlen)
    rw [lg_entry_eq]
    dsimp only at hW
    rw [Nat.sub_self, Nat.sub_self] at hW
    exact hW
end PMX
end MG18runx0
section MG18runx1
/-! THE TABLES of this claim, and that they are right -/
abbrev pd_I : Type := List (List (Nat × Instr × Nat))
def pl_0 : List (pm_M × pd_I) := [((yX0_init, prog_2_method_1_code, 2, none, 0, 2, 100), im_0), ((yX0_hear, prog_2_method_2_code, 3, some .boolean, 0, 3, 0), im_1), ((yX0_canBe, prog_2_method_3_code, 2, some .boolean, 0, 2, 0), im_2), ((yX0_fitting, prog_2_method_4_code, 4, some .int, 0, 2, 0), im_3), ((yX0_fitsAll, prog_2_method_5_code, 4, some .boolean, 0, 3, 0), im_4), ((yX0_fitsOne, prog_2_method_6_code, 5, some .boolean, 0, 5, 0), im_5), ((yX1_init, prog_3_method_1_code, 2, none, 1, 2, 101), im_6), ((yX1_owedBy, prog_3_method_2_code, 5, some .int, 1, 3, 1), im_7), ((yX1_owedTo, prog_3_method_3_code, 5, some .int, 1, 3, 1), im_8), ((yX1_allDues, prog_3_method_4_code, 4, some .int, 1, 2, 1), im_9), ((yX1_openNets, prog_3_method_5_code, 5, some .int, 1, 2, 1), im_10), ((yX1_fewestPayments, prog_3_method_6_code, 6, some .int, 1, 2, 1), im_11), ((yX1_shortestRing, prog_3_method_7_code, 4, some .int, 1, 2, 1), im_12), ((yX1_closes, prog_3_method_8_code, 7, some .boolean, 1, 5, 1), im_13), ((yX1_leastDue, prog_3_method_9_code, 6, some .int, 1, 3, 1), im_14), ((yX2_init, prog_4_method_1_code, 2, none, 2, 1, 102), im_15)]
def pl_1 : List (pm_M × pd_I) := [((yX2_mark, prog_4_method_2_code, 2, none, 2, 2, 2), im_16), ((yX2_commit, prog_4_method_3_code, 1, none, 2, 1, 2), im_17), ((yX2_remember, prog_4_method_4_code, 2, none, 2, 2, 2), im_18), ((yX2_restore, prog_4_method_5_code, 2, some .boolean, 2, 2, 2), im_19), ((yX2_clear, prog_4_method_6_code, 1, none, 2, 1, 2), im_20), ((yX2_slotOf, prog_4_method_7_code, 2, some .int, 2, 2, 2), im_21), ((yX3_init, prog_5_method_1_code, 1, none, 3, 1, 103), im_22), ((yX3_isCourt, prog_5_method_2_code, 2, some .boolean, 3, 2, 3), im_23), ((yX3_areTwoCourts, prog_5_method_3_code, 3, some .boolean, 3, 3, 3), im_24), ((yX3_isGift, prog_5_method_4_code, 2, some .boolean, 3, 2, 3), im_25), ((yX3_noteCourt, prog_5_method_5_code, 4, none, 3, 4, 3), im_26), ((yX3_noteGift, prog_5_method_6_code, 5, none, 3, 5, 3), im_27), ((yX3_tasteOf, prog_5_method_7_code, 3, some .int, 3, 3, 3), im_28), ((yX3_heldBy, prog_5_method_8_code, 5, some .int, 3, 3, 3), im_29), ((yX3_formerlyOf, prog_5_method_9_code, 5, some .int, 3, 3, 3), im_30), ((yX3_alliesOf, prog_5_method_10_code, 6, some .int, 3, 3, 3), im_31)]
def pl_2 : List (pm_M × pd_I) := [((yX3_foesOf, prog_5_method_11_code, 6, some .int, 3, 3, 3), im_32), ((yX3_alliedPairs, prog_5_method_12_code, 4, some .int, 3, 2, 3), im_33), ((yX3_warringPairs, prog_5_method_13_code, 4, some .int, 3, 2, 3), im_34), ((yX3_roadsThere, prog_5_method_14_code, 4, some .int, 3, 1, 3), im_35), ((yX3_allGrain, prog_5_method_15_code, 4, some .int, 3, 2, 3), im_36), ((yX3_esteemFor, prog_5_method_16_code, 5, some .int, 3, 3, 3), im_37), ((yX3_allEsteem, prog_5_method_17_code, 4, some .int, 3, 2, 3), im_38), ((yX3_valueFor, prog_5_method_18_code, 5, some .int, 3, 5, 3), im_39), ((yX3_deliver, prog_5_method_19_code, 9, none, 3, 5, 3), im_40), ((yX3_isEater, prog_5_method_20_code, 3, some .boolean, 3, 3, 3), im_41), ((yX3_passMonth, prog_5_method_21_code, 3, none, 3, 2, 3), im_42), ((yX3_passMonthAt, prog_5_method_22_code, 5, none, 3, 3, 3), im_43), ((yX3_firstDeath, prog_5_method_23_code, 5, some .int, 3, 3, 3), im_44), ((yX4_init, prog_6_method_1_code, 2, none, 4, 2, 104), im_45), ((yX4_fewestMonths, prog_6_method_2_code, 5, some .int, 4, 3, 4), im_46), ((yX4_shorten, prog_6_method_3_code, 4, none, 4, 2, 4), im_47)]
def pl_3 : List (pm_M × pd_I) := [((yX4_tellWay, prog_6_method_4_code, 5, none, 4, 3, 4), im_48), ((yX4_firstNext, prog_6_method_5_code, 4, some .int, 4, 2, 4), im_49), ((yX4_fewestFedMonths, prog_6_method_6_code, 7, some .int, 4, 5, 4), im_50), ((yX4_goOn, prog_6_method_7_code, 9, none, 4, 5, 4), im_51), ((yX5_init, prog_7_method_1_code, 1, none, 5, 1, 105), im_52), ((yX5_clear, prog_7_method_2_code, 1, none, 5, 1, 5), im_53), ((yX5_tell, prog_7_method_3_code, 3, none, 5, 2, 5), im_54), ((yX5_tellOne, prog_7_method_4_code, 3, none, 5, 2, 5), im_55), ((yX5_tellTwo, prog_7_method_5_code, 5, none, 5, 3, 5), im_56), ((yX6_init, prog_8_method_1_code, 2, none, 6, 2, 106), im_57), ((yX6_read, prog_8_method_2_code, 2, some .int, 6, 1, 6), im_58), ((yX6_beFirstRule, prog_8_method_3_code, 1, none, 6, 1, 6), im_59), ((yX6_emit, prog_8_method_4_code, 2, none, 6, 2, 6), im_60), ((yX6_nextSign, prog_8_method_5_code, 1, some .int, 6, 1, 6), im_61), ((yX6_readLevel, prog_8_method_6_code, 6, some .boolean, 6, 3, 6), im_62), ((yX6_levelOf, prog_8_method_7_code, 1, some .int, 6, 1, 6), im_63)]
def pl_4 : List (pm_M × pd_I) := [((yX6_readSigned, prog_8_method_8_code, 4, some .boolean, 6, 2, 6), im_64), ((yX6_readThing, prog_8_method_9_code, 3, some .boolean, 6, 2, 6), im_65), ((yX6_readNumber, prog_8_method_10_code, 4, none, 6, 1, 6), im_66), ((yX6_letterOf, prog_8_method_11_code, 1, some .int, 6, 1, 6), im_67), ((yX6_evaluate, prog_8_method_12_code, 6, some .int, 6, 2, 6), im_68), ((yX6_push, prog_8_method_13_code, 2, none, 6, 2, 6), im_69), ((yX6_pop, prog_8_method_14_code, 1, some .int, 6, 1, 6), im_70), ((yX6_joined, prog_8_method_15_code, 3, some .int, 6, 3, 6), im_71), ((yX7_init, prog_9_method_1_code, 1, none, 7, 1, 107), im_72), ((yX7_copyFrom, prog_9_method_2_code, 2, none, 7, 2, 7), im_73), ((yX7_isDead, prog_9_method_3_code, 2, some .boolean, 7, 2, 7), im_74), ((yX7_hadIt, prog_9_method_4_code, 3, some .boolean, 7, 3, 7), im_75), ((yX7_isWelcome, prog_9_method_5_code, 3, some .boolean, 7, 3, 7), im_76), ((yX7_esteemGained, prog_9_method_6_code, 5, some .int, 7, 5, 7), im_77), ((yX8_init, prog_10_method_1_code, 1, none, 8, 1, 108), im_78), ((yX8_addFour, prog_10_method_2_code, 3, some .boolean, 8, 2, 8), im_79)]
def pl_5 : List (pm_M × pd_I) := [((yX8_signAt, prog_10_method_3_code, 3, some .int, 8, 3, 8), im_80), ((yX8_digitAt, prog_10_method_4_code, 4, some .int, 8, 3, 8), im_81), ((yX9_init, prog_11_method_1_code, 3, none, 9, 3, 109), im_82), ((yX9_fewestGifts, prog_11_method_2_code, 6, some .int, 9, 4, 9), im_83), ((yX9_goOn, prog_11_method_3_code, 9, none, 9, 6, 9), im_84), ((yX10_init, prog_1_method_1_code, 2, none, 10, 1, 110), im_85), ((yX10_sign, prog_1_method_2_code, 2, some .int, 10, 2, 10), im_86), ((yX10_end, prog_1_method_3_code, 2, some .boolean, 10, 2, 10), im_87), ((yX10_courts, prog_1_method_4_code, 3, some .int, 10, 1, 10), im_88), ((yX10_gifts, prog_1_method_5_code, 2, some .int, 10, 1, 10), im_89), ((yX10_rule, prog_1_method_6_code, 3, some .int, 10, 1, 10), im_90), ((yX10_court, prog_1_method_7_code, 3, some .int, 10, 3, 10), im_91), ((yX10_between, prog_1_method_8_code, 5, some .int, 10, 4, 10), im_92), ((yX10_gift, prog_1_method_9_code, 3, some .int, 10, 3, 10), im_93), ((yX10_road, prog_1_method_10_code, 5, some .int, 10, 4, 10), im_94), ((yX10_sheet, prog_1_method_11_code, 8, some .int, 10, 5, 10), im_95)]
def pl_6 : List (pm_M × pd_I) := [((yX10_send, prog_1_method_12_code, 7, some .int, 10, 3, 10), im_96), ((yX10_months, prog_1_method_13_code, 4, some .int, 10, 2, 10), im_97), ((yX10_envoy, prog_1_method_14_code, 4, some .int, 10, 4, 10), im_98), ((yX10_forgive, prog_1_method_15_code, 5, some .int, 10, 3, 10), im_99), ((yX10_year, prog_1_method_16_code, 6, some .int, 10, 1, 10), im_100), ((yX10_undo, prog_1_method_17_code, 1, some .int, 10, 1, 10), im_101), ((yX10_value, prog_1_method_18_code, 3, some .int, 10, 3, 10), im_102), ((yX10_where, prog_1_method_19_code, 7, some .int, 10, 2, 10), im_103), ((yX10_answer, prog_1_method_20_code, 12, some .int, 10, 3, 10), im_104), ((yX10_wins, prog_1_method_21_code, 5, some .int, 10, 3, 10), im_105), ((yX10_unseen, prog_1_method_22_code, 6, some .int, 10, 2, 10), im_106), ((yX10_swaps, prog_1_method_23_code, 6, some .int, 10, 1, 10), im_107), ((yX10_way, prog_1_method_24_code, 4, some .int, 10, 3, 10), im_108), ((yX10_walks, prog_1_method_25_code, 6, some .int, 10, 5, 10), im_109), ((yX10_alive, prog_1_method_26_code, 5, some .int, 10, 4, 10), im_110), ((yX10_feeds, prog_1_method_27_code, 3, some .int, 10, 2, 10), im_111)]
def pl_7 : List (pm_M × pd_I) := [((yX10_starves, prog_1_method_28_code, 7, some .int, 10, 3, 10), im_112), ((yX10_net, prog_1_method_29_code, 4, some .int, 10, 2, 10), im_113), ((yX10_settle, prog_1_method_30_code, 2, some .int, 10, 1, 10), im_114), ((yX10_ring, prog_1_method_31_code, 3, some .int, 10, 1, 10), im_115), ((yX10_ranks, prog_1_method_32_code, 5, some .int, 10, 1, 10), im_116), ((yX10_league, prog_1_method_33_code, 3, some .int, 10, 1, 10), im_117), ((yX10_heard, prog_1_method_34_code, 3, some .int, 10, 3, 10), im_118), ((yX10_forget, prog_1_method_35_code, 2, some .int, 10, 1, 10), im_119), ((yX10_fits, prog_1_method_36_code, 4, some .int, 10, 1, 10), im_120), ((yX10_ask, prog_1_method_37_code, 7, some .int, 10, 1, 10), im_121), ((yX10_law, prog_1_method_38_code, 4, some .int, 10, 1, 10), im_122), ((yX10_rests, prog_1_method_39_code, 5, some .int, 10, 2, 10), im_123), ((yX10_years, prog_1_method_40_code, 8, some .int, 10, 3, 10), im_124), ((yX10_keep, prog_1_method_41_code, 2, some .boolean, 10, 2, 10), im_125), ((yX10_again, prog_1_method_42_code, 2, some .boolean, 10, 2, 10), im_126), ((yX10_count, prog_1_method_43_code, 2, some .int, 10, 2, 10), im_127)]
def pl_8 : List (pm_M × pd_I) := [((yX10_row, prog_1_method_44_code, 2, some .long, 10, 2, 10), im_128), ((yX10_readCourts, prog_1_method_45_code, 6, some .int, 10, 1, 10), im_129), ((yX10_readGifts, prog_1_method_46_code, 4, some .int, 10, 1, 10), im_130), ((yX10_readGift, prog_1_method_47_code, 9, some .int, 10, 3, 10), im_131), ((yX10_settleIn, prog_1_method_48_code, 3, none, 10, 2, 10), im_132), ((yX10_forgetStates, prog_1_method_49_code, 1, none, 10, 1, 10), im_133), ((yX10_yearFault, prog_1_method_50_code, 6, some .int, 10, 1, 10), im_134), ((yX10_actSigns, prog_1_method_51_code, 1, some .int, 10, 1, 10), im_135), ((yX10_sendRefusal, prog_1_method_52_code, 3, some .int, 10, 3, 10), im_136), ((yX10_isEnvoyRefused, prog_1_method_53_code, 4, some .boolean, 10, 4, 10), im_137), ((yX10_hearEnvoy, prog_1_method_54_code, 5, none, 10, 4, 10), im_138), ((yX10_forgiveRefusal, prog_1_method_55_code, 3, some .int, 10, 3, 10), im_139), ((yX10_passMonths, prog_1_method_56_code, 3, none, 10, 2, 10), im_140), ((yX10_doAct, prog_1_method_57_code, 5, some .boolean, 10, 2, 10), im_141), ((yX10_actSend, prog_1_method_58_code, 3, some .boolean, 10, 3, 10), im_142), ((yX10_actForgive, prog_1_method_59_code, 3, some .boolean, 10, 3, 10), im_143)]
def pl_9 : List (pm_M × pd_I) := [((yX10_actEnvoy, prog_1_method_60_code, 4, some .boolean, 10, 4, 10), im_144), ((yX10_tryDelivery, prog_1_method_61_code, 3, some .boolean, 10, 3, 10), im_145), ((yX10_swapGain, prog_1_method_62_code, 7, some .int, 10, 3, 10), im_146), ((yX10_mostEsteemedBut, prog_1_method_63_code, 6, some .int, 10, 2, 10), im_147), ((yX10_isLeague, prog_1_method_64_code, 4, some .boolean, 10, 2, 10), im_148), ((yX10_worthAtHome, prog_1_method_65_code, 4, some .int, 10, 2, 10), im_149), ((yX10_tellFraction, prog_1_method_66_code, 7, none, 10, 3, 10), im_150), ((yX10_greatestDivisor, prog_1_method_67_code, 11, some .long, 10, 2, 10), im_151), ((yX10_power, prog_1_method_68_code, 5, some .long, 10, 2, 10), im_152), ((yX10_isBestReply, prog_1_method_69_code, 4, some .boolean, 10, 3, 10), im_153), ((yX10_gainOf, prog_1_method_70_code, 5, some .int, 10, 3, 10), im_154), ((yX10_nextDraw, prog_1_method_71_code, 1, some .int, 10, 1, 10), im_155), ((yX10_drawOf, prog_1_method_72_code, 2, some .int, 10, 2, 10), im_156), ((yX10_sheetEntry, prog_1_method_73_code, 2, some .int, 10, 2, 10), im_157), ((yX10_firstOf, prog_1_method_74_code, 2, some .int, 10, 1, 10), im_158), ((yX10_clamped, prog_1_method_75_code, 2, some .int, 10, 2, 10), im_159)]
def pl_10 : List (pm_M × pd_I) := [((yX10_pairOf, prog_1_method_76_code, 2, some .int, 10, 2, 10), im_160), ((yX11_init, prog_13_method_1_code, 1, none, 11, 1, 111), im_161), ((yX11_refuse, prog_13_method_3_code, 1, some .int, 11, 1, 11), im_162), ((yX11_in, prog_13_method_4_code, 6, some .boolean, 11, 3, 11), im_163), ((yX11_has, prog_13_method_5_code, 2, some .boolean, 11, 2, 11), im_164), ((yX11_flag, prog_13_method_6_code, 1, some .int, 11, 1, 11), im_165), ((yX11_common, prog_13_method_7_code, 4, some .long, 11, 2, 11), im_166), ((yX11_enters, prog_13_method_8_code, 3, none, 11, 2, 11), im_167), ((yX11_isCourt, prog_13_method_9_code, 2, some .boolean, 11, 2, 11), im_168), ((yX11_isGift, prog_13_method_10_code, 2, some .boolean, 11, 2, 11), im_169), ((yX11_arePair, prog_13_method_11_code, 3, some .boolean, 11, 3, 11), im_170), ((yX11_likes, prog_13_method_12_code, 3, some .int, 11, 3, 11), im_171), ((yX11_owes, prog_13_method_13_code, 3, some .int, 11, 3, 11), im_172), ((yX11_isDead, prog_13_method_14_code, 2, some .boolean, 11, 2, 11), im_173), ((yX11_giftsOf, prog_13_method_15_code, 5, some .int, 11, 3, 11), im_174), ((yX11_areAllied, prog_13_method_16_code, 3, some .boolean, 11, 3, 11), im_175)]
def pl_11 : List (pm_M × pd_I) := [((yX11_areAtWar, prog_13_method_17_code, 3, some .boolean, 11, 3, 11), im_176), ((yX11_grainAll, prog_13_method_18_code, 4, some .int, 11, 2, 11), im_177), ((yX11_sign, prog_13_method_19_code, 3, some .int, 11, 2, 11), im_178), ((yX11_end, prog_13_method_20_code, 2, some .boolean, 11, 2, 11), im_179), ((yX11_begins, prog_13_method_21_code, 3, some .int, 11, 2, 11), im_180), ((yX11_takes, prog_13_method_22_code, 3, some .boolean, 11, 2, 11), im_181), ((yX11_isDigit, prog_13_method_23_code, 1, some .boolean, 11, 1, 11), im_182), ((yX11_takesOf, prog_13_method_24_code, 3, some .int, 11, 2, 11), im_183), ((yX11_number, prog_13_method_25_code, 4, some .int, 11, 2, 11), im_184), ((yX11_digitIn, prog_13_method_26_code, 3, some .int, 11, 3, 11), im_185), ((yX11_faultOf, prog_13_method_27_code, 5, some .int, 11, 4, 11), im_186), ((yX11_readsCourt, prog_13_method_28_code, 4, some .boolean, 11, 1, 11), im_187), ((yX11_courts, prog_13_method_29_code, 7, some .int, 11, 1, 11), im_188), ((yX11_comes, prog_13_method_30_code, 3, none, 11, 3, 11), im_189), ((yX11_isNew, prog_13_method_31_code, 1, none, 11, 1, 11), im_190), ((yX11_readsGift, prog_13_method_32_code, 2, some .boolean, 11, 1, 11), im_191)]
def pl_12 : List (pm_M × pd_I) := [((yX11_gifts, prog_13_method_33_code, 6, some .int, 11, 1, 11), im_192), ((yX11_codes, prog_13_method_34_code, 2, none, 11, 2, 11), im_193), ((yX11_readsThing, prog_13_method_35_code, 2, some .boolean, 11, 1, 11), im_194), ((yX11_readsRank, prog_13_method_36_code, 4, some .boolean, 11, 2, 11), im_195), ((yX11_readsRule, prog_13_method_37_code, 3, some .int, 11, 1, 11), im_196), ((yX11_laysCode, prog_13_method_38_code, 4, none, 11, 3, 11), im_197), ((yX11_rule, prog_13_method_39_code, 2, some .int, 11, 1, 11), im_198), ((yX11_worked, prog_13_method_40_code, 3, some .int, 11, 3, 11), im_199), ((yX11_ruled, prog_13_method_41_code, 4, some .int, 11, 1, 11), im_200), ((yX11_valueOf, prog_13_method_42_code, 4, some .int, 11, 4, 11), im_201), ((yX11_alliedTo, prog_13_method_43_code, 4, some .int, 11, 2, 11), im_202), ((yX11_atWarWith, prog_13_method_44_code, 4, some .int, 11, 2, 11), im_203), ((yX11_owesAll, prog_13_method_45_code, 4, some .int, 11, 2, 11), im_204), ((yX11_owedAll, prog_13_method_46_code, 4, some .int, 11, 2, 11), im_205), ((yX11_court, prog_13_method_47_code, 3, some .int, 11, 3, 11), im_206), ((yX11_between, prog_13_method_48_code, 5, some .int, 11, 4, 11), im_207)]
def pl_13 : List (pm_M × pd_I) := [((yX11_gift, prog_13_method_49_code, 3, some .int, 11, 3, 11), im_208), ((yX11_road, prog_13_method_50_code, 5, some .int, 11, 4, 11), im_209), ((yX11_sheet, prog_13_method_51_code, 8, some .int, 11, 5, 11), im_210), ((yX11_putsBy, prog_13_method_52_code, 2, none, 11, 1, 11), im_211), ((yX11_adds, prog_13_method_53_code, 3, some .int, 11, 2, 11), im_212), ((yX11_counts, prog_13_method_54_code, 2, some .int, 11, 2, 11), im_213), ((yX11_undo, prog_13_method_55_code, 2, some .int, 11, 1, 11), im_214), ((yX11_grows, prog_13_method_56_code, 5, some .int, 11, 4, 11), im_215), ((yX11_moved, prog_13_method_57_code, 2, some .int, 11, 2, 11), im_216), ((yX11_sends, prog_13_method_58_code, 9, some .int, 11, 4, 11), im_217), ((yX11_isHungry, prog_13_method_59_code, 3, some .boolean, 11, 3, 11), im_218), ((yX11_monthGoes, prog_13_method_60_code, 4, none, 11, 2, 11), im_219), ((yX11_envoys, prog_13_method_61_code, 4, some .int, 11, 4, 11), im_220), ((yX11_forgives, prog_13_method_62_code, 5, some .int, 11, 3, 11), im_221), ((yX11_send, prog_13_method_63_code, 4, some .int, 11, 3, 11), im_222), ((yX11_months, prog_13_method_64_code, 4, some .int, 11, 2, 11), im_223)]
def pl_14 : List (pm_M × pd_I) := [((yX11_envoy, prog_13_method_65_code, 4, some .int, 11, 4, 11), im_224), ((yX11_forgive, prog_13_method_66_code, 3, some .int, 11, 3, 11), im_225), ((yX11_readsAct, prog_13_method_67_code, 2, some .boolean, 11, 1, 11), im_226), ((yX11_does, prog_13_method_68_code, 5, some .boolean, 11, 2, 11), im_227), ((yX11_year, prog_13_method_69_code, 5, some .int, 11, 1, 11), im_228), ((yX11_copies, prog_13_method_70_code, 2, none, 11, 1, 11), im_229), ((yX11_value, prog_13_method_71_code, 3, some .int, 11, 3, 11), im_230), ((yX11_where, prog_13_method_72_code, 7, some .int, 11, 2, 11), im_231), ((yX11_answer, prog_13_method_73_code, 8, some .int, 11, 3, 11), im_232), ((yX11_winsBy, prog_13_method_74_code, 8, none, 11, 6, 11), im_233), ((yX11_wins, prog_13_method_75_code, 5, some .int, 11, 3, 11), im_234), ((yX11_unseen, prog_13_method_76_code, 6, some .int, 11, 2, 11), im_235), ((yX11_swaps, prog_13_method_77_code, 11, some .int, 11, 1, 11), im_236), ((yX11_laysFar, prog_13_method_78_code, 6, none, 11, 2, 11), im_237), ((yX11_way, prog_13_method_79_code, 7, some .int, 11, 3, 11), im_238), ((yX11_walks, prog_13_method_80_code, 11, some .int, 11, 5, 11), im_239)]
def pl_15 : List (pm_M × pd_I) := [((yX11_alive, prog_13_method_81_code, 10, some .int, 11, 4, 11), im_240), ((yX11_diesIn, prog_13_method_82_code, 4, some .int, 11, 2, 11), im_241), ((yX11_feeds, prog_13_method_83_code, 3, some .int, 11, 2, 11), im_242), ((yX11_starves, prog_13_method_84_code, 7, some .int, 11, 3, 11), im_243), ((yX11_net, prog_13_method_85_code, 2, some .int, 11, 2, 11), im_244), ((yX11_settle, prog_13_method_86_code, 4, some .int, 11, 1, 11), im_245), ((yX11_rings, prog_13_method_87_code, 5, none, 11, 3, 11), im_246), ((yX11_ring, prog_13_method_88_code, 3, some .int, 11, 1, 11), im_247), ((yX11_likedBy, prog_13_method_89_code, 4, some .int, 11, 2, 11), im_248), ((yX11_ranks, prog_13_method_90_code, 6, some .int, 11, 1, 11), im_249), ((yX11_league, prog_13_method_91_code, 5, some .int, 11, 1, 11), im_250), ((yX11_heard, prog_13_method_92_code, 4, some .int, 11, 3, 11), im_251), ((yX11_forget, prog_13_method_93_code, 2, some .int, 11, 1, 11), im_252), ((yX11_isSo, prog_13_method_94_code, 4, some .boolean, 11, 4, 11), im_253), ((yX11_fitting, prog_13_method_95_code, 5, some .int, 11, 1, 11), im_254), ((yX11_fits, prog_13_method_96_code, 4, some .int, 11, 1, 11), im_255)]
def pl_16 : List (pm_M × pd_I) := [((yX11_ask, prog_13_method_97_code, 7, some .int, 11, 1, 11), im_256), ((yX11_valueAll, prog_13_method_98_code, 3, some .int, 11, 1, 11), im_257), ((yX11_law, prog_13_method_99_code, 5, some .int, 11, 1, 11), im_258), ((yX11_earns, prog_13_method_100_code, 4, some .int, 11, 3, 11), im_259), ((yX11_isRest, prog_13_method_101_code, 5, some .boolean, 11, 3, 11), im_260), ((yX11_rests, prog_13_method_102_code, 5, some .int, 11, 2, 11), im_261), ((yX11_draws, prog_13_method_103_code, 2, some .int, 11, 2, 11), im_262), ((yX11_years, prog_13_method_104_code, 7, some .int, 11, 3, 11), im_263), ((yX11_keep, prog_13_method_105_code, 3, some .boolean, 11, 2, 11), im_264), ((yX11_again, prog_13_method_106_code, 3, some .boolean, 11, 2, 11), im_265), ((yX11_pairMany, prog_13_method_107_code, 5, some .int, 11, 2, 11), im_266), ((yX11_count, prog_13_method_108_code, 4, some .int, 11, 2, 11), im_267), ((yX11_row, prog_13_method_109_code, 2, some .long, 11, 2, 11), im_268), ((yJ6_numberOfTrailingZeros_0f7a4, prog_18_method_48_code, 2, some .int, 12, 1, 99), im_269), ((yJ6_bitCount_0f7a4, prog_18_method_49_code, 1, some .int, 12, 1, 99), im_270)]
def pd_L : List (List (pm_M × pd_I)) := [pl_0, pl_1, pl_2, pl_3, pl_4, pl_5, pl_6, pl_7, pl_8, pl_9, pl_10, pl_11, pl_12, pl_13, pl_14, pl_15, pl_16]
def pd_at (k : Nat) : Option (pm_M × pd_I) := match pm_nth pd_L (k / 16) with
  | some c => pm_nth c (k % 16)
  | none => none
def pd_lw : List (pm_M × pd_I) := [((x, code, 8, some .boolean, 13, 1, 99), imL_law), ((⟨"GiftsOfCourtsLaw", "court", "(LGiftsOfCourts;II[J)I"⟩, method_3_code, 5, some .int, 13, 4, 99), imL_court), ((⟨"GiftsOfCourtsLaw", "between", "(LGiftsOfCourts;III[J)I"⟩, method_4_code, 6, some .int, 13, 5, 99), imL_between), ((⟨"GiftsOfCourtsLaw", "gift", "(LGiftsOfCourts;II[J)I"⟩, method_5_code, 5, some .int, 13, 4, 99), imL_gift), ((⟨"GiftsOfCourtsLaw", "row", "(LGiftsOfCourts;I[J)I"⟩, method_6_code, 4, some .int, 13, 3, 99), imL_row)]
def pd_a2 (k : Nat) : Option (pm_M × pd_I) := cond (Nat.ble 1000 k) (pm_nth pd_lw (k - 1000)) (pd_at k)
def pd_m (k : Nat) : pm_M := match pd_a2 k with
  | some e => e.1
  | none => (yX0_init, cX0_init, 0, none, 0, 0, 0)
def pd_ins (k pc : Nat) : Option (Instr × Nat) := match pd_a2 k with
  | some e => pm_ch e.2 pc
  | none => none
def pd_oL : List String := ["GiftsOfCourts$Clues", "GiftsOfCourts$Debts", "GiftsOfCourts$Past", "GiftsOfCourts$Realm", "GiftsOfCourts$Roads", "GiftsOfCourts$Row", "GiftsOfCourts$Rule", "GiftsOfCourts$State", "GiftsOfCourts$Text", "GiftsOfCourts$Wooing", "GiftsOfCourts", "GiftsOfCourtsModel", "java/lang/Integer", "GiftsOfCourtsLaw"]
def pd_own (o : Nat) : String := match pm_nth pd_oL o with
  | some x => x
  | none => ""
def pd_dL : List (List Value) := [[.int 0, .null, .null, .null], [.null, .null, .null, .null], [.null, .int 0, .int 0], [.int 0, .int 0, .null, .null, .null, .null, .null, .null, .null], [.null, .null, .null], [.null, .int 0], [.null, .int 0, .null, .int 0, .null, .int 0], [.null, .null, .null, .null, .null, .int 0, .int 0], [.null, .int 0], [.null, .null, .null, .null, .null, .int 0, .int 0, .int 0], [.null, .null, .null, .null, .null, .null, .null, .int 0, .null, .null, .null, .null, .null, .null], [.int 0, .int 0, .null, .int 0, .int 0, .int 0, .null, .null, .null, .null, .null, .null, .null, .null, .null, .int 0, .int 0, .int 0, .int 0, .null, .int 0, .null, .null, .int 0, .int 0, .null, .null, .int 0, .null, .int 0, .int 0, .null, .null, .null, .null, .int 0, .null, .null, .int 0, .null, .null, .int 0, .null, .null, .null, .null, .int 0, .int 0, .null, .null, .null, .int 0, .null, .null, .null]]
def pd_df (c : Nat) : List Value := match pm_nth pd_dL c with
  | some x => x
  | none => []
def pd_ty : List FieldType := [.int, .char, .long, .boolean, .object "GiftsOfCourts$State"]
def pd_tyL : List (Nat → FieldType) := [tyX0, tyX1, tyX2, tyX3, tyX4, tyX5, tyX6, tyX7, tyX8, tyX9, tyX10, tyX11]
def pd_FL : List (List (Nat × (Nat × Nat × Nat) × Nat)) := [[(9, (0, 2, 12), 379), (15, (0, 3, 12), 380), (18, (0, 1, 12), 378), (22, (0, 0, 0), 376), (30, (3, 1, 0), 166), (43, (3, 5, 22), 175), (46, (3, 6, 22), 179)], [(9, (1, 0, 12), 324), (15, (1, 2, 12), 327), (18, (1, 3, 12), 328), (21, (1, 1, 12), 326), (25, (3, 0, 0), 162), (31, (7, 2, 22), 218)], [(11, (2, 0, 12), 258), (18, (2, 2, 0), 260), (30, (2, 1, 0), 259)], [(9, (3, 2, 12), 168), (15, (3, 3, 12), 170), (18, (3, 4, 12), 171), (21, (3, 5, 12), 174), (24, (3, 6, 12), 177), (27, (3, 7, 12), 181), (32, (3, 8, 12), 183), (35, (3, 0, 0), 160), (43, (3, 1, 0), 165), (46, (7, 3, 22), 223), (55, (7, 1, 22), 216), (75, (7, 0, 22), 212), (84, (7, 4, 22), 227), (97, (7, 2, 22), 221), (116, (7, 6, 0), 232), (123, (7, 5, 0), 230)], [(9, (4, 1, 12), 309), (15, (4, 2, 12), 310), (18, (4, 0, 12), 308), (22, (3, 0, 0), 161), (32, (3, 4, 22), 172)], [(9, (5, 0, 12), 144), (15, (5, 1, 0), 146)], [(9, (6, 0, 12), 283), (15, (6, 2, 12), 285), (18, (6, 4, 12), 287), (25, (8, 1, 0), 130), (31, (6, 5, 0), 288), (34, (6, 1, 0), 284), (73, (6, 3, 0), 286)], [(9, (7, 0, 12), 210), (15, (7, 1, 12), 213), (18, (7, 2, 12), 217), (21, (7, 3, 12), 222), (24, (7, 4, 12), 225), (33, (7, 5, 0), 228), (37, (7, 6, 0), 231)], [(9, (8, 0, 12), 128), (15, (8, 1, 0), 129)], [(9, (9, 0, 12), 344), (15, (9, 3, 12), 348), (18, (9, 4, 12), 349), (21, (9, 1, 12), 346), (25, (9, 2, 12), 347), (29, (9, 5, 0), 350), (39, (3, 1, 0), 164), (46, (9, 6, 0), 351), (49, (9, 7, 0), 352), (52, (7, 1, 22), 214), (61, (7, 2, 22), 219), (85, (3, 6, 22), 178)], [(12, (10, 0, 12), 390), (19, (10, 1, 12), 391), (26, (10, 2, 12), 392), (33, (10, 3, 12), 393), (37, (10, 4, 12), 394), (43, (10, 5, 12), 395), (47, (10, 6, 12), 396), (56, (10, 8, 2), 398), (60, (10, 9, 2), 399), (68, (10, 10, 12), 400), (75, (10, 11, 12), 401), (84, (10, 12, 12), 402), (91, (10, 13, 12), 403), (99, (8, 1, 0), 131), (107, (3, 0, 0), 163), (120, (3, 1, 0), 167), (136, (3, 2, 22), 169), (140, (7, 0, 22), 211), (163, (7, 1, 22), 215), (166, (7, 2, 22), 220), (169, (3, 4, 22), 173), (175, (3, 5, 22), 176), (178, (3, 6, 22), 180), (181, (3, 7, 22), 182), (184, (7, 3, 22), 224), (187, (7, 4, 22), 226), (225, (7, 5, 0), 229), (270, (2, 2, 0), 261), (289, (9, 0, 22), 345), (345, (1, 0, 22), 325), (363, (0, 0, 0), 377), (395, (10, 7, 0), 397), (399, (7, 6, 0), 233), (414, (5, 1, 0), 147), (415, (5, 0, 22), 145)], [(9, (11, 2, 12), 1151), (13, (11, 6, 12), 1155), (17, (11, 7, 12), 1156), (20, (11, 8, 12), 1157), (23, (11, 9, 12), 1158), (26, (11, 10, 12), 1159), (29, (11, 11, 12), 1160), (32, (11, 12, 12), 1161), (35, (11, 13, 12), 1162), (38, (11, 14, 12), 1163), (41, (11, 19, 12), 1168), (44, (11, 21, 12), 1170), (47, (11, 22, 12), 1171), (50, (11, 25, 12), 1174), (53, (11, 26, 12), 1175), (56, (11, 28, 12), 1177), (59, (11, 31, 12), 1180), (62, (11, 32, 12), 1181), (65, (11, 33, 12), 1182), (68, (11, 34, 12), 1183), (71, (11, 36, 12), 1185), (74, (11, 37, 12), 1186), (77, (11, 39, 12), 1188), (80, (11, 40, 12), 1189), (83, (11, 42, 12), 1191), (86, (11, 43, 12), 1192), (89, (11, 44, 12), 1193), (92, (11, 45, 12), 1194), (95, (11, 48, 12), 1197), (98, (11, 49, 12), 1198), (101, (11, 50, 12), 1199), (104, (11, 52, 12), 1201), (108, (11, 53, 12), 1202), (111, (11, 54, 12), 1203), (114, (11, 0, 0), 1149), (122, (11, 1, 0), 1150), (125, (11, 3, 0), 1152), (132, (11, 4, 0), 1153), (147, (11, 15, 0), 1164), (150, (11, 16, 0), 1165), (153, (11, 18, 0), 1167), (162, (11, 17, 0), 1166), (187, (11, 20, 0), 1169), (217, (11, 27, 0), 1176), (220, (11, 5, 0), 1154), (226, (11, 24, 0), 1173), (251, (11, 23, 0), 1172), (334, (11, 29, 0), 1178), (337, (11, 30, 0), 1179), (377, (11, 35, 0), 1184), (392, (11, 38, 0), 1187), (404, (11, 41, 0), 1190), (417, (11, 46, 0), 1195), (426, (11, 47, 0), 1196), (447, (11, 51, 0), 1200)], [], []]
def pd_fld (o j : Nat) : Option (Nat × Nat × Nat) := match pm_nth pd_FL o with
  | some l => (pm_fd l j).map (fun e => e.1)
  | none => none
def ml_0_0 : List (Nat × (Nat × Nat) × List Nat) := [(3, (6, 0), [375]), (26, (2, 2), [944, 945]), (35, (0, 4), [959, 961, 35]), (39, (0, 5), [963, 965, 36]), (49, (0, 75), [967, 636, 637]), (54, (0, 74), [968, 616, 617])]
def ml_0 : List (Nat × (Nat × Nat) × List Nat) := ml_0_0
def ml_1_0 : List (Nat × (Nat × Nat) × List Nat) := [(3, (6, 0), [323]), (40, (0, 7), [893, 881, 882]), (44, (0, 8), [892, 876, 877]), (47, (8, 0), [898]), (52, (0, 13), [907, 909, 32]), (56, (7, 0), [915]), (36, (3, 160), [879, 471])]
def ml_1 : List (Nat × (Nat × Nat) × List Nat) := ml_1_0
def ml_2_0 : List (Nat × (Nat × Nat) × List Nat) := [(3, (6, 0), [254]), (22, (0, 21), [586, 588, 13]), (26, (0, 73), [590, 591, 592]), (33, (0, 16), [582, 583, 584]), (36, (0, 17), [597, 598, 599]), (17, (5, 72), [257, 207])]
def ml_2 : List (Nat × (Nat × Nat) × List Nat) := ml_2_0
def ml_3_0 : List (Nat × (Nat × Nat) × List Nat) := [(3, (6, 0), [159]), (39, (0, 23), [545, 494, 495]), (51, (0, 75), [977, 636, 637]), (62, (0, 31), [1032, 787, 788]), (66, (2, 270), [609, 610]), (72, (0, 32), [1037, 1038, 1039]), (78, (0, 37), [1015, 925, 926]), (81, (0, 28), [605, 606, 607]), (87, (0, 74), [615, 616, 617]), (90, (0, 68), [619, 620, 621]), (100, (0, 77), [644, 645, 646]), (104, (0, 76), [650, 651, 652]), (107, (7, 0), [654]), (112, (0, 43), [679, 681, 17]), (119, (0, 41), [683, 684, 685]), (58, (3, 160), [643, 471]), (94, (3, 159), [634, 554])]
def ml_3 : List (Nat × (Nat × Nat) × List Nat) := ml_3_0
def ml_4_0 : List (Nat × (Nat × Nat) × List Nat) := [(3, (6, 0), [307]), (28, (0, 47), [810, 812, 28]), (39, (7, 0), [815]), (44, (0, 53), [820, 660, 661]), (49, (0, 54), [821, 664, 665]), (53, (0, 49), [822, 824, 29]), (57, (0, 51), [834, 836, 30]), (61, (8, 0), [838]), (35, (3, 160), [814, 471])]
def ml_4 : List (Nat × (Nat × Nat) × List Nat) := ml_4_0
def ml_5_0 : List (Nat × (Nat × Nat) × List Nat) := [(3, (6, 0), [143]), (19, (0, 53), [659, 660, 661]), (22, (0, 54), [663, 664, 665])]
def ml_5 : List (Nat × (Nat × Nat) × List Nat) := ml_5_0
def ml_6_0 : List (Nat × (Nat × Nat) × List Nat) := [(3, (6, 0), [274]), (22, (0, 59), [275, 277, 0]), (37, (0, 62), [509, 511, 7]), (41, (0, 60), [279, 281, 1]), (45, (0, 80), [521, 458, 459]), (49, (0, 64), [513, 515, 8]), (53, (0, 61), [517, 519, 9]), (57, (2, 63), [534, 535]), (61, (0, 65), [522, 524, 10]), (64, (0, 66), [526, 528, 11]), (67, (2, 67), [531, 532]), (70, (0, 81), [530, 454, 455]), (76, (0, 69), [623, 625, 14]), (79, (0, 70), [627, 629, 15]), (82, (2, 71), [631, 632])]
def ml_6 : List (Nat × (Nat × Nat) × List Nat) := ml_6_0
def ml_7_0 : List (Nat × (Nat × Nat) × List Nat) := [(3, (6, 0), [209]), (27, (9, 0), [594]), (40, (0, 75), [648, 636, 637]), (44, (0, 74), [649, 616, 617])]
def ml_7 : List (Nat × (Nat × Nat) × List Nat) := ml_7_0
def ml_8_0 : List (Nat × (Nat × Nat) × List Nat) := [(3, (6, 0), [127]), (19, (0, 80), [457, 458, 459])]
def ml_8 : List (Nat × (Nat × Nat) × List Nat) := ml_8_0
def ml_9_0 : List (Nat × (Nat × Nat) × List Nat) := [(3, (6, 0), [343]), (33, (0, 29), [766, 767, 768]), (42, (0, 39), [770, 602, 603]), (64, (0, 84), [772, 774, 26]), (68, (9, 0), [776]), (74, (0, 77), [777, 645, 646]), (81, (0, 76), [779, 651, 652]), (57, (3, 160), [771, 471]), (78, (3, 159), [778, 554])]
def ml_9 : List (Nat × (Nat × Nat) × List Nat) := ml_9_0
def ml_10_0 : List (Nat × (Nat × Nat) × List Nat) := [(3, (6, 0), [119]), (42, (4, 15), [251, 252]), (53, (4, 57), [271, 272]), (65, (4, 45), [304, 305]), (74, (4, 6), [320, 321]), (81, (4, 82), [340, 341]), (90, (4, 0), [372, 373]), (95, (0, 79), [437, 438, 439]), (103, (0, 129), [449, 451, 2]), (110, (0, 132), [466, 468, 3]), (114, (0, 133), [473, 475, 4]), (117, (0, 130), [485, 487, 5]), (123, (0, 58), [505, 506, 507]), (126, (0, 23), [493, 494, 495]), (132, (0, 28), [1118, 606, 607]), (143, (0, 29), [1119, 767, 768]), (147, (0, 31), [786, 787, 788]), (150, (0, 32), [1120, 1038, 1039]), (153, (0, 7), [880, 881, 882]), (156, (0, 24), [541, 542, 543])]
def ml_10_1 : List (Nat × (Nat × Nat) × List Nat) := [(160, (2, 160), [470, 471]), (172, (0, 25), [574, 575, 576]), (190, (0, 74), [1135, 616, 617]), (193, (2, 157), [550, 551]), (196, (2, 159), [553, 554]), (199, (0, 36), [562, 563, 564]), (203, (0, 136), [570, 572, 12]), (206, (0, 18), [578, 579, 580]), (210, (0, 39), [601, 602, 603]), (214, (0, 75), [635, 636, 637]), (217, (0, 40), [639, 640, 641]), (221, (0, 56), [655, 656, 657]), (228, (0, 140), [671, 673, 16]), (231, (2, 270), [687, 610]), (237, (0, 137), [692, 694, 18]), (241, (0, 138), [696, 698, 19]), (245, (0, 139), [704, 706, 20]), (248, (0, 134), [712, 714, 21]), (251, (0, 16), [719, 583, 584]), (254, (0, 141), [720, 722, 22])]
def ml_10_2 : List (Nat × (Nat × Nat) × List Nat) := [(257, (0, 80), [465, 458, 459]), (260, (2, 135), [716, 717]), (263, (0, 17), [736, 598, 599]), (266, (0, 19), [741, 742, 743]), (273, (7, 0), [556]), (278, (0, 77), [757, 645, 646]), (282, (0, 83), [762, 763, 764]), (286, (0, 53), [780, 660, 661]), (292, (0, 54), [781, 664, 665]), (296, (0, 55), [790, 791, 792]), (299, (0, 146), [798, 800, 27]), (302, (0, 46), [806, 807, 808]), (305, (0, 48), [816, 817, 818]), (309, (0, 50), [830, 831, 832]), (312, (2, 152), [843, 844]), (316, (0, 150), [846, 848, 31]), (319, (0, 73), [857, 591, 592]), (322, (0, 44), [858, 859, 860]), (325, (2, 158), [862, 863]), (328, (0, 41), [869, 684, 685])]
def ml_10_3 : List (Nat × (Nat × Nat) × List Nat) := [(333, (0, 8), [875, 876, 877]), (336, (0, 10), [888, 889, 890]), (339, (0, 11), [894, 895, 896]), (342, (0, 12), [903, 904, 905]), (348, (0, 14), [911, 912, 913]), (351, (0, 147), [920, 922, 33]), (354, (0, 37), [924, 925, 926]), (357, (0, 148), [932, 934, 34]), (360, (0, 1), [940, 941, 942]), (364, (0, 3), [955, 956, 957]), (367, (0, 30), [973, 974, 975]), (370, (8, 0), [559]), (373, (0, 149), [982, 984, 37]), (377, (2, 153), [990, 991]), (380, (2, 155), [1000, 1001]), (383, (2, 156), [1004, 1005]), (386, (0, 42), [675, 676, 677]), (389, (0, 145), [1007, 1009, 38]), (392, (0, 38), [1011, 1012, 1013]), (398, (0, 20), [477, 478, 479])]
def ml_10_4 : List (Nat × (Nat × Nat) × List Nat) := [(402, (0, 33), [1028, 1029, 1030]), (405, (0, 34), [1033, 1034, 1035]), (408, (0, 9), [1041, 1042, 1043]), (411, (0, 35), [1045, 1046, 1047]), (419, (0, 81), [453, 454, 455]), (422, (0, 26), [461, 462, 463]), (425, (0, 131), [489, 491, 6]), (428, (0, 27), [497, 498, 499]), (432, (0, 142), [724, 726, 23]), (435, (0, 143), [728, 730, 24]), (438, (0, 144), [732, 734, 25]), (441, (2, 151), [850, 851]), (445, (2, 154), [993, 994]), (11, (5, 78), [124, 125]), (18, (5, 52), [140, 141]), (25, (5, 22), [156, 157]), (32, (5, 72), [206, 207])]
def ml_10 : List (Nat × (Nat × Nat) × List Nat) := ml_10_0 ++ ml_10_1 ++ ml_10_2 ++ ml_10_3 ++ ml_10_4
def ml_11_0 : List (Nat × (Nat × Nat) × List Nat) := [(3, (6, 0), [1148]), (118, (2, 166), [1682, 1683]), (128, (2, 163), [1324, 1325]), (135, (0, 168), [1466, 1468, 56]), (139, (2, 164), [1525, 1526]), (143, (2, 171), [1488, 1489]), (156, (7, 0), [1335]), (165, (2, 165), [1358, 1359]), (173, (10, 0), [1406]), (179, (11, 0), [1416]), (183, (0, 182), [1348, 1350, 44]), (190, (0, 185), [1340, 1342, 42]), (193, (0, 184), [1344, 1346, 43]), (197, (0, 180), [1331, 1333, 40]), (200, (0, 187), [1336, 1338, 41]), (203, (0, 181), [1354, 1356, 45]), (206, (0, 186), [1361, 1363, 46]), (210, (0, 189), [1365, 1367, 47]), (214, (0, 190), [1369, 1371, 48]), (223, (0, 191), [1377, 1379, 49])]
def ml_11_1 : List (Nat × (Nat × Nat) × List Nat) := [(229, (0, 194), [1393, 1395, 52]), (232, (0, 193), [1397, 1399, 53]), (238, (0, 183), [1402, 1404, 54]), (242, (0, 195), [1389, 1391, 51]), (254, (0, 196), [1385, 1387, 50]), (257, (0, 197), [1457, 1459, 55]), (261, (2, 199), [1568, 1569]), (265, (2, 270), [1563, 610]), (270, (2, 173), [1522, 1523]), (274, (0, 200), [1564, 1566, 68]), (277, (8, 0), [1538]), (280, (2, 175), [1485, 1486]), (284, (2, 176), [1495, 1496]), (287, (2, 172), [1502, 1503]), (296, (0, 162), [1473, 1475, 57]), (299, (0, 174), [1477, 1479, 58]), (303, (0, 202), [1481, 1483, 59]), (306, (0, 203), [1491, 1493, 60]), (309, (0, 204), [1498, 1500, 61]), (312, (0, 170), [1509, 1511, 62])]
def ml_11_2 : List (Nat × (Nat × Nat) × List Nat) := [(317, (0, 169), [1518, 1520, 63]), (324, (0, 177), [1539, 1541, 64]), (328, (0, 212), [1581, 1583, 70]), (331, (0, 201), [1559, 1561, 67]), (340, (2, 216), [1571, 1572]), (343, (2, 215), [1574, 1575]), (347, (0, 218), [1598, 1600, 73]), (352, (0, 211), [1551, 1553, 65]), (355, (0, 217), [1555, 1557, 66]), (358, (0, 213), [1577, 1579, 69]), (361, (0, 167), [1585, 1587, 71]), (367, (0, 219), [1594, 1596, 72]), (371, (0, 220), [1606, 1608, 74]), (374, (0, 221), [1615, 1617, 75]), (382, (0, 226), [1623, 1625, 76]), (385, (0, 227), [1628, 1630, 77]), (389, (0, 229), [1645, 1647, 78]), (395, (0, 233), [1653, 1655, 79]), (399, (0, 237), [1669, 1671, 80]), (407, (0, 241), [1689, 1691, 81])]
def ml_11_3 : List (Nat × (Nat × Nat) × List Nat) := [(410, (2, 269), [1693, 1694]), (414, (0, 205), [1706, 1708, 82]), (420, (0, 246), [1718, 1720, 83]), (423, (0, 248), [1726, 1728, 84]), (429, (0, 253), [1750, 1752, 86]), (433, (0, 254), [1746, 1748, 85]), (436, (0, 257), [1762, 1764, 87]), (439, (2, 259), [1774, 1775]), (444, (2, 260), [1771, 1772]), (451, (0, 262), [1781, 1783, 88]), (454, (0, 266), [1798, 1800, 89])]
def ml_11 : List (Nat × (Nat × Nat) × List Nat) := ml_11_0 ++ ml_11_1 ++ ml_11_2 ++ ml_11_3
def ml_12 : List (Nat × (Nat × Nat) × List Nat) := []
def ml_13_0 : List (Nat × (Nat × Nat) × List Nat) := [(7, (0, 91), [1053, 1054, 1055]), (15, (0, 92), [1124, 1125, 1126]), (19, (0, 93), [1131, 1132, 1133]), (22, (0, 128), [1139, 1140, 1141]), (26, (4, 85), [116, 117]), (29, (4, 161), [1145, 1146]), (30, (0, 86), [433, 434, 435]), (34, (0, 178), [1316, 1317, 1318]), (35, (0, 87), [441, 442, 443]), (39, (0, 179), [1320, 1321, 1322]), (40, (0, 88), [445, 446, 447]), (44, (0, 188), [1327, 1328, 1329]), (45, (0, 89), [481, 482, 483]), (48, (0, 192), [1373, 1374, 1375]), (49, (0, 90), [501, 502, 503]), (52, (0, 198), [1381, 1382, 1383]), (58, (0, 206), [1462, 1463, 1464]), (62, (0, 207), [1505, 1506, 1507]), (65, (0, 208), [1514, 1515, 1516]), (66, (0, 94), [537, 538, 539])]
def ml_13_1 : List (Nat × (Nat × Nat) × List Nat) := [(69, (0, 209), [1528, 1529, 1530]), (70, (0, 95), [546, 547, 548]), (74, (0, 210), [1533, 1534, 1535]), (75, (0, 96), [566, 567, 568]), (78, (0, 222), [1547, 1548, 1549]), (79, (0, 97), [667, 668, 669]), (82, (0, 223), [1589, 1590, 1591]), (83, (0, 98), [688, 689, 690]), (86, (0, 224), [1602, 1603, 1604]), (87, (0, 99), [700, 701, 702]), (90, (0, 225), [1611, 1612, 1613]), (91, (0, 100), [708, 709, 710]), (94, (0, 228), [1619, 1620, 1621]), (95, (0, 101), [737, 738, 739]), (98, (0, 214), [1543, 1544, 1545]), (99, (0, 102), [745, 746, 747]), (102, (0, 230), [1632, 1633, 1634]), (103, (0, 103), [749, 750, 751]), (106, (0, 231), [1636, 1637, 1638]), (107, (0, 104), [753, 754, 755])]
def ml_13_2 : List (Nat × (Nat × Nat) × List Nat) := [(110, (0, 232), [1641, 1642, 1643]), (111, (0, 105), [758, 759, 760]), (114, (0, 234), [1649, 1650, 1651]), (115, (0, 106), [782, 783, 784]), (118, (0, 235), [1657, 1658, 1659]), (119, (0, 107), [794, 795, 796]), (122, (0, 236), [1661, 1662, 1663]), (123, (0, 108), [802, 803, 804]), (126, (0, 238), [1665, 1666, 1667]), (127, (0, 109), [826, 827, 828]), (130, (0, 239), [1673, 1674, 1675]), (131, (0, 110), [839, 840, 841]), (134, (0, 240), [1678, 1679, 1680]), (135, (0, 111), [853, 854, 855]), (138, (0, 242), [1685, 1686, 1687]), (139, (0, 112), [865, 866, 867]), (142, (0, 243), [1697, 1698, 1699]), (143, (0, 113), [870, 871, 872]), (146, (0, 244), [1701, 1702, 1703]), (147, (0, 114), [884, 885, 886])]
def ml_13_3 : List (Nat × (Nat × Nat) × List Nat) := [(150, (0, 245), [1710, 1711, 1712]), (151, (0, 115), [899, 900, 901]), (154, (0, 247), [1714, 1715, 1716]), (155, (0, 116), [916, 917, 918]), (158, (0, 249), [1722, 1723, 1724]), (159, (0, 117), [928, 929, 930]), (162, (0, 250), [1730, 1731, 1732]), (163, (0, 118), [936, 937, 938]), (166, (0, 251), [1734, 1735, 1736]), (167, (0, 119), [947, 948, 949]), (170, (0, 252), [1738, 1739, 1740]), (171, (0, 120), [951, 952, 953]), (174, (0, 255), [1742, 1743, 1744]), (175, (0, 121), [969, 970, 971]), (178, (0, 256), [1754, 1755, 1756]), (179, (0, 122), [978, 979, 980]), (182, (0, 258), [1758, 1759, 1760]), (183, (0, 123), [986, 987, 988]), (186, (0, 261), [1766, 1767, 1768]), (187, (0, 124), [996, 997, 998])]
def ml_13_4 : List (Nat × (Nat × Nat) × List Nat) := [(190, (0, 263), [1777, 1778, 1779]), (191, (0, 125), [1016, 1017, 1018]), (194, (0, 264), [1786, 1787, 1788]), (195, (0, 126), [1020, 1021, 1022]), (198, (0, 265), [1790, 1791, 1792]), (199, (0, 127), [1024, 1025, 1026]), (202, (0, 267), [1794, 1795, 1796]), (206, (0, 268), [1802, 1803, 1804])]
def ml_13 : List (Nat × (Nat × Nat) × List Nat) := ml_13_0 ++ ml_13_1 ++ ml_13_2 ++ ml_13_3 ++ ml_13_4
def pd_ML : List (List (Nat × (Nat × Nat) × List Nat)) := [ml_0, ml_1, ml_2, ml_3, ml_4, ml_5, ml_6, ml_7, ml_8, ml_9, ml_10, ml_11, ml_12, ml_13]
def pd_mlk (o j : Nat) : Option (Nat × Nat) := match pm_nth pd_ML o with
  | some l => (pm_fd l j).map (fun e => e.1)
  | none => none
def pd_CL : List (List (Nat × Nat × Nat)) := [[], [], [(9, 7, 255)], [], [], [], [], [], [], [], [(9, 8, 122), (16, 5, 138), (23, 3, 154), (30, 7, 204), (40, 2, 249), (51, 6, 269), (63, 4, 302), (72, 1, 318), (79, 9, 338), (88, 0, 370)], [], [], [(8, 10, 114), (27, 11, 1143)]]
def pd_AL : List (List (Nat × Nat × Nat)) := [[], [], [(9, 1004, 255)], [], [], [], [], [], [], [], [(30, 1004, 204)], [], [], []]
def pd_clk (o j : Nat) : Option Nat := match pm_nth (cond (Nat.ble 100 o) pd_AL pd_CL) (cond (Nat.ble 100 o) (o - 100) o) with
  | some l => (pm_fd l j).map (fun e => e.1)
  | none => none
def pd_KL : List (List (Nat × Int32 × Nat)) := [[], [], [], [], [], [], [], [], [], [], [(332, (-100000 : Int32), 874), (449, (1103515245 : Int32), 1003)], [(388, (1000000 : Int32), 1640), (413, (-100000 : Int32), 1705), (450, (1103515245 : Int32), 1785)], [(264, (65536 : Int32), 1696), (265, (1431655765 : Int32), 612), (266, (858993459 : Int32), 613), (267, (252645135 : Int32), 614)], []]
def pd_KK : List (List (Nat × Int64 × Nat)) := [[], [], [], [], [], [], [], [], [], [], [], [(169, (48 : Int64), 1352), (171, (57 : Int64), 1353), (290, (5 : Int64), 1470), (292, (10 : Int64), 1471), (294, (14 : Int64), 1472), (315, (2 : Int64), 1513), (320, (9 : Int64), 1532), (322, (3 : Int64), 1537), (350, (-9 : Int64), 1610), (365, (60 : Int64), 1593), (402, (99 : Int64), 1677), (442, (20 : Int64), 1770)], [], []]
def pd_con (o j : Nat) : Option Int32 := match pm_nth pd_KL o with
  | some l => (pm_fd l j).map (fun e => e.1)
  | none => none
def pd_conL (o j : Nat) : Option Int64 := match pm_nth pd_KK o with
  | some l => (pm_fd l j).map (fun e => e.1)
  | none => none
def PT : pm_Tab := (vwCl, pd_df, pd_ty, pd_own, pd_m, pd_ins, pd_fld, pd_mlk, pd_clk, pd_con, pd_conL)
def PG : List Cond := lw_tbl.filter goodWord
def pd_isN : Cond → Bool
  | .methodLinkNest _ _ _ _ => true
  | .arrayOver (.object _) => true
  | _ => false
def PN : List Cond := lw_tbl.filter pd_isN
end MG18runx1
end MH00listsx11
section MH00listsx12
/-! that they are right -/
theorem pm_nth_mem {α : Type} : ∀ {l : List α} {n : Nat} {a : α}, pm_nth l n = some a → a ∈ l
  | [], n, a, h => by cases h
  | x :: r, 0, a, h => by cases (Option.some.inj h : x = a); exact List.mem_cons_self
  | x :: r, n + 1, a, h => List.mem_cons_of_mem _ (pm_nth_mem h)
theorem pm_fd_mem {α : Type} : ∀ {l : List (Nat × α)} {n : Nat} {a : α}, pm_fd l n = some a → (n, a) ∈ l
  | [], n, a, h => by cases h
  | e :: r, n, a, h => by
    unfold pm_fd at h
    cases hb : Nat.beq e.1 n with
    | true =>
      rw [hb] at h
      have h1 : e.2 = a := Option.some.inj h
      have h2 : e.1 = n := Nat.eq_of_beq_eq_true hb
      rw [← h1, ← h2]
      exact List.mem_cons_self
    | false =>
      rw [hb] at h
      exact List.mem_cons_of_mem _ (pm_fd_mem h)
def pm_allI {α : Type} (f : Nat → α → Bool) : Nat → List α → Bool
  | _, [] => true
  | n, a :: r => f n a && pm_allI f (n + 1) r
theorem pm_allI_at {α : Type} {f : Nat → α → Bool} : ∀ {l : List α} {n i : Nat} {a : α}, pm_allI f n l = true → pm_nth l i = some a → f (n + i) a = true
  | [], n, i, a, h, h2 => by cases h2
  | x :: r, n, 0, a, h, h2 => by
    cases (Option.some.inj h2 : x = a)
    unfold pm_allI at h
    exact (Bool.and_eq_true_iff.mp h).1
  | x :: r, n, i + 1, a, h, h2 => by
    unfold pm_allI at h
    have := pm_allI_at (Bool.and_eq_true_iff.mp h).2 h2
    rw [show n + (i + 1) = n + 1 + i by omega]
    exact this
theorem pd_w {w : Cond} {i : Nat} (h : lw_tbl[i]? = some w) (hg : goodWord w = true) : w ∈ PG := List.mem_filter.mpr ⟨List.mem_of_getElem? h, hg⟩
noncomputable def pd_tb (i : Nat) (w : Cond) : Bool := decide (lq_at lw_tbl i = some w) && goodWord w
theorem pd_tb_in {i : Nat} {w : Cond} (h : pd_tb i w = true) : w ∈ PG := by
  have h1 := Bool.and_eq_true_iff.mp h
  exact pd_w (lq_atx (of_decide_eq_true h1.1)) h1.2
noncomputable def pd_nb (i : Nat) (w : Cond) : Bool := decide (lq_at lw_tbl i = some w) && pd_isN w
theorem pd_nb_in {i : Nat} {w : Cond} (h : pd_nb i w = true) : w ∈ PN := by
  have h1 := Bool.and_eq_true_iff.mp h
  exact List.mem_filter.mpr ⟨List.mem_of_getElem? (lq_atx (of_decide_eq_true h1.1)), h1.2⟩
set_option maxRecDepth 100000 in
theorem pc_0 : pl_0.map (fun e => Cond.code e.1.1 e.1.2.1 e.1.2.2.1 e.1.2.2.2.1) = [374, 943, 946, 958, 962, 966, 322, 883, 878, 1044, 891, 897, 906, 910, 914, 253].filterMap (fun i => lq_at lw_tbl i) := rfl
theorem pk_0 : ∀ e ∈ pl_0, e.2.all (fun c => c.all (fun q => decide (decode e.1.2.1 q.1 = .ok q.2))) = true := List.forall_mem_cons.mpr ⟨imk_0, List.forall_mem_cons.mpr ⟨imk_1, List.forall_mem_cons.mpr ⟨imk_2, List.forall_mem_cons.mpr ⟨imk_3, List.forall_mem_cons.mpr ⟨imk_4, List.forall_mem_cons.mpr ⟨imk_5, List.forall_mem_cons.mpr ⟨imk_6, List.forall_mem_cons.mpr ⟨imk_7, List.forall_mem_cons.mpr ⟨imk_8, List.forall_mem_cons.mpr ⟨imk_9, List.forall_mem_cons.mpr ⟨imk_10, List.forall_mem_cons.mpr ⟨imk_11, List.forall_mem_cons.mpr ⟨imk_12, List.forall_mem_cons.mpr ⟨imk_13, List.forall_mem_cons.mpr ⟨imk_14, List.forall_mem_cons.mpr ⟨imk_15, fun _ h => absurd h List.not_mem_nil⟩⟩⟩⟩⟩⟩⟩⟩⟩⟩⟩⟩⟩⟩⟩⟩
set_option maxRecDepth 100000 in
theorem pc_1 : pl_1.map (fun e => Cond.code e.1.1 e.1.2.1 e.1.2.2.1 e.1.2.2.2.1) = [585, 600, 581, 744, 480, 589, 158, 496, 544, 577, 464, 500, 608, 769, 976, 789].filterMap (fun i => lq_at lw_tbl i) := rfl
theorem pk_1 : ∀ e ∈ pl_1, e.2.all (fun c => c.all (fun q => decide (decode e.1.2.1 q.1 = .ok q.2))) = true := List.forall_mem_cons.mpr ⟨imk_16, List.forall_mem_cons.mpr ⟨imk_17, List.forall_mem_cons.mpr ⟨imk_18, List.forall_mem_cons.mpr ⟨imk_19, List.forall_mem_cons.mpr ⟨imk_20, List.forall_mem_cons.mpr ⟨imk_21, List.forall_mem_cons.mpr ⟨imk_22, List.forall_mem_cons.mpr ⟨imk_23, List.forall_mem_cons.mpr ⟨imk_24, List.forall_mem_cons.mpr ⟨imk_25, List.forall_mem_cons.mpr ⟨imk_26, List.forall_mem_cons.mpr ⟨imk_27, List.forall_mem_cons.mpr ⟨imk_28, List.forall_mem_cons.mpr ⟨imk_29, List.forall_mem_cons.mpr ⟨imk_30, List.forall_mem_cons.mpr ⟨imk_31, fun _ h => absurd h List.not_mem_nil⟩⟩⟩⟩⟩⟩⟩⟩⟩⟩⟩⟩⟩⟩⟩⟩
set_option maxRecDepth 100000 in
theorem pc_2 : pl_2.map (fun e => Cond.code e.1.1 e.1.2.1 e.1.2.2.1 e.1.2.2.2.1) = [1040, 1031, 1036, 1048, 565, 927, 1014, 604, 642, 686, 678, 682, 861, 306, 809, 813].filterMap (fun i => lq_at lw_tbl i) := rfl
theorem pk_2 : ∀ e ∈ pl_2, e.2.all (fun c => c.all (fun q => decide (decode e.1.2.1 q.1 = .ok q.2))) = true := List.forall_mem_cons.mpr ⟨imk_32, List.forall_mem_cons.mpr ⟨imk_33, List.forall_mem_cons.mpr ⟨imk_34, List.forall_mem_cons.mpr ⟨imk_35, List.forall_mem_cons.mpr ⟨imk_36, List.forall_mem_cons.mpr ⟨imk_37, List.forall_mem_cons.mpr ⟨imk_38, List.forall_mem_cons.mpr ⟨imk_39, List.forall_mem_cons.mpr ⟨imk_40, List.forall_mem_cons.mpr ⟨imk_41, List.forall_mem_cons.mpr ⟨imk_42, List.forall_mem_cons.mpr ⟨imk_43, List.forall_mem_cons.mpr ⟨imk_44, List.forall_mem_cons.mpr ⟨imk_45, List.forall_mem_cons.mpr ⟨imk_46, List.forall_mem_cons.mpr ⟨imk_47, fun _ h => absurd h List.not_mem_nil⟩⟩⟩⟩⟩⟩⟩⟩⟩⟩⟩⟩⟩⟩⟩⟩
set_option maxRecDepth 100000 in
theorem pc_3 : pl_3.map (fun e => Cond.code e.1.1 e.1.2.1 e.1.2.2.1 e.1.2.2.2.1) = [819, 825, 833, 837, 142, 662, 666, 793, 658, 273, 508, 278, 282, 520, 512, 536].filterMap (fun i => lq_at lw_tbl i) := rfl
theorem pk_3 : ∀ e ∈ pl_3, e.2.all (fun c => c.all (fun q => decide (decode e.1.2.1 q.1 = .ok q.2))) = true := List.forall_mem_cons.mpr ⟨imk_48, List.forall_mem_cons.mpr ⟨imk_49, List.forall_mem_cons.mpr ⟨imk_50, List.forall_mem_cons.mpr ⟨imk_51, List.forall_mem_cons.mpr ⟨imk_52, List.forall_mem_cons.mpr ⟨imk_53, List.forall_mem_cons.mpr ⟨imk_54, List.forall_mem_cons.mpr ⟨imk_55, List.forall_mem_cons.mpr ⟨imk_56, List.forall_mem_cons.mpr ⟨imk_57, List.forall_mem_cons.mpr ⟨imk_58, List.forall_mem_cons.mpr ⟨imk_59, List.forall_mem_cons.mpr ⟨imk_60, List.forall_mem_cons.mpr ⟨imk_61, List.forall_mem_cons.mpr ⟨imk_62, List.forall_mem_cons.mpr ⟨imk_63, fun _ h => absurd h List.not_mem_nil⟩⟩⟩⟩⟩⟩⟩⟩⟩⟩⟩⟩⟩⟩⟩⟩
set_option maxRecDepth 100000 in
theorem pc_4 : pl_4.map (fun e => Cond.code e.1.1 e.1.2.1 e.1.2.2.1 e.1.2.2.2.1) = [516, 525, 529, 533, 622, 626, 630, 633, 208, 593, 618, 638, 653, 647, 126, 440].filterMap (fun i => lq_at lw_tbl i) := rfl
theorem pk_4 : ∀ e ∈ pl_4, e.2.all (fun c => c.all (fun q => decide (decode e.1.2.1 q.1 = .ok q.2))) = true := List.forall_mem_cons.mpr ⟨imk_64, List.forall_mem_cons.mpr ⟨imk_65, List.forall_mem_cons.mpr ⟨imk_66, List.forall_mem_cons.mpr ⟨imk_67, List.forall_mem_cons.mpr ⟨imk_68, List.forall_mem_cons.mpr ⟨imk_69, List.forall_mem_cons.mpr ⟨imk_70, List.forall_mem_cons.mpr ⟨imk_71, List.forall_mem_cons.mpr ⟨imk_72, List.forall_mem_cons.mpr ⟨imk_73, List.forall_mem_cons.mpr ⟨imk_74, List.forall_mem_cons.mpr ⟨imk_75, List.forall_mem_cons.mpr ⟨imk_76, List.forall_mem_cons.mpr ⟨imk_77, List.forall_mem_cons.mpr ⟨imk_78, List.forall_mem_cons.mpr ⟨imk_79, fun _ h => absurd h List.not_mem_nil⟩⟩⟩⟩⟩⟩⟩⟩⟩⟩⟩⟩⟩⟩⟩⟩
set_option maxRecDepth 100000 in
theorem pc_5 : pl_5.map (fun e => Cond.code e.1.1 e.1.2.1 e.1.2.2.1 e.1.2.2.2.1) = [460, 456, 342, 765, 775, 118, 436, 444, 448, 484, 504, 1056, 1127, 1134, 540, 549].filterMap (fun i => lq_at lw_tbl i) := rfl
theorem pk_5 : ∀ e ∈ pl_5, e.2.all (fun c => c.all (fun q => decide (decode e.1.2.1 q.1 = .ok q.2))) = true := List.forall_mem_cons.mpr ⟨imk_80, List.forall_mem_cons.mpr ⟨imk_81, List.forall_mem_cons.mpr ⟨imk_82, List.forall_mem_cons.mpr ⟨imk_83, List.forall_mem_cons.mpr ⟨imk_84, List.forall_mem_cons.mpr ⟨imk_85, List.forall_mem_cons.mpr ⟨imk_86, List.forall_mem_cons.mpr ⟨imk_87, List.forall_mem_cons.mpr ⟨imk_88, List.forall_mem_cons.mpr ⟨imk_89, List.forall_mem_cons.mpr ⟨imk_90, List.forall_mem_cons.mpr ⟨imk_91, List.forall_mem_cons.mpr ⟨imk_92, List.forall_mem_cons.mpr ⟨imk_93, List.forall_mem_cons.mpr ⟨imk_94, List.forall_mem_cons.mpr ⟨imk_95, fun _ h => absurd h List.not_mem_nil⟩⟩⟩⟩⟩⟩⟩⟩⟩⟩⟩⟩⟩⟩⟩⟩
set_option maxRecDepth 100000 in
theorem pc_6 : pl_6.map (fun e => Cond.code e.1.1 e.1.2.1 e.1.2.2.1 e.1.2.2.2.1) = [569, 670, 691, 703, 711, 740, 748, 752, 756, 761, 785, 797, 805, 829, 842, 856].filterMap (fun i => lq_at lw_tbl i) := rfl
theorem pk_6 : ∀ e ∈ pl_6, e.2.all (fun c => c.all (fun q => decide (decode e.1.2.1 q.1 = .ok q.2))) = true := List.forall_mem_cons.mpr ⟨imk_96, List.forall_mem_cons.mpr ⟨imk_97, List.forall_mem_cons.mpr ⟨imk_98, List.forall_mem_cons.mpr ⟨imk_99, List.forall_mem_cons.mpr ⟨imk_100, List.forall_mem_cons.mpr ⟨imk_101, List.forall_mem_cons.mpr ⟨imk_102, List.forall_mem_cons.mpr ⟨imk_103, List.forall_mem_cons.mpr ⟨imk_104, List.forall_mem_cons.mpr ⟨imk_105, List.forall_mem_cons.mpr ⟨imk_106, List.forall_mem_cons.mpr ⟨imk_107, List.forall_mem_cons.mpr ⟨imk_108, List.forall_mem_cons.mpr ⟨imk_109, List.forall_mem_cons.mpr ⟨imk_110, List.forall_mem_cons.mpr ⟨imk_111, fun _ h => absurd h List.not_mem_nil⟩⟩⟩⟩⟩⟩⟩⟩⟩⟩⟩⟩⟩⟩⟩⟩
set_option maxRecDepth 100000 in
theorem pc_7 : pl_7.map (fun e => Cond.code e.1.1 e.1.2.1 e.1.2.2.1 e.1.2.2.2.1) = [868, 873, 887, 902, 919, 931, 939, 950, 954, 972, 981, 989, 999, 1019, 1023, 1027].filterMap (fun i => lq_at lw_tbl i) := rfl
theorem pk_7 : ∀ e ∈ pl_7, e.2.all (fun c => c.all (fun q => decide (decode e.1.2.1 q.1 = .ok q.2))) = true := List.forall_mem_cons.mpr ⟨imk_112, List.forall_mem_cons.mpr ⟨imk_113, List.forall_mem_cons.mpr ⟨imk_114, List.forall_mem_cons.mpr ⟨imk_115, List.forall_mem_cons.mpr ⟨imk_116, List.forall_mem_cons.mpr ⟨imk_117, List.forall_mem_cons.mpr ⟨imk_118, List.forall_mem_cons.mpr ⟨imk_119, List.forall_mem_cons.mpr ⟨imk_120, List.forall_mem_cons.mpr ⟨imk_121, List.forall_mem_cons.mpr ⟨imk_122, List.forall_mem_cons.mpr ⟨imk_123, List.forall_mem_cons.mpr ⟨imk_124, List.forall_mem_cons.mpr ⟨imk_125, List.forall_mem_cons.mpr ⟨imk_126, List.forall_mem_cons.mpr ⟨imk_127, fun _ h => absurd h List.not_mem_nil⟩⟩⟩⟩⟩⟩⟩⟩⟩⟩⟩⟩⟩⟩⟩⟩
set_option maxRecDepth 100000 in
theorem pc_8 : pl_8.map (fun e => Cond.code e.1.1 e.1.2.1 e.1.2.2.1 e.1.2.2.2.1) = [1142, 452, 488, 492, 469, 476, 715, 718, 573, 695, 699, 707, 674, 723, 727, 731].filterMap (fun i => lq_at lw_tbl i) := rfl
theorem pk_8 : ∀ e ∈ pl_8, e.2.all (fun c => c.all (fun q => decide (decode e.1.2.1 q.1 = .ok q.2))) = true := List.forall_mem_cons.mpr ⟨imk_128, List.forall_mem_cons.mpr ⟨imk_129, List.forall_mem_cons.mpr ⟨imk_130, List.forall_mem_cons.mpr ⟨imk_131, List.forall_mem_cons.mpr ⟨imk_132, List.forall_mem_cons.mpr ⟨imk_133, List.forall_mem_cons.mpr ⟨imk_134, List.forall_mem_cons.mpr ⟨imk_135, List.forall_mem_cons.mpr ⟨imk_136, List.forall_mem_cons.mpr ⟨imk_137, List.forall_mem_cons.mpr ⟨imk_138, List.forall_mem_cons.mpr ⟨imk_139, List.forall_mem_cons.mpr ⟨imk_140, List.forall_mem_cons.mpr ⟨imk_141, List.forall_mem_cons.mpr ⟨imk_142, List.forall_mem_cons.mpr ⟨imk_143, fun _ h => absurd h List.not_mem_nil⟩⟩⟩⟩⟩⟩⟩⟩⟩⟩⟩⟩⟩⟩⟩⟩
set_option maxRecDepth 100000 in
theorem pc_9 : pl_9.map (fun e => Cond.code e.1.1 e.1.2.1 e.1.2.2.1 e.1.2.2.2.1) = [735, 1010, 801, 923, 935, 985, 849, 852, 845, 992, 995, 1002, 1006, 552, 864, 555].filterMap (fun i => lq_at lw_tbl i) := rfl
theorem pk_9 : ∀ e ∈ pl_9, e.2.all (fun c => c.all (fun q => decide (decode e.1.2.1 q.1 = .ok q.2))) = true := List.forall_mem_cons.mpr ⟨imk_144, List.forall_mem_cons.mpr ⟨imk_145, List.forall_mem_cons.mpr ⟨imk_146, List.forall_mem_cons.mpr ⟨imk_147, List.forall_mem_cons.mpr ⟨imk_148, List.forall_mem_cons.mpr ⟨imk_149, List.forall_mem_cons.mpr ⟨imk_150, List.forall_mem_cons.mpr ⟨imk_151, List.forall_mem_cons.mpr ⟨imk_152, List.forall_mem_cons.mpr ⟨imk_153, List.forall_mem_cons.mpr ⟨imk_154, List.forall_mem_cons.mpr ⟨imk_155, List.forall_mem_cons.mpr ⟨imk_156, List.forall_mem_cons.mpr ⟨imk_157, List.forall_mem_cons.mpr ⟨imk_158, List.forall_mem_cons.mpr ⟨imk_159, fun _ h => absurd h List.not_mem_nil⟩⟩⟩⟩⟩⟩⟩⟩⟩⟩⟩⟩⟩⟩⟩⟩
set_option maxRecDepth 100000 in
theorem pc_10 : pl_10.map (fun e => Cond.code e.1.1 e.1.2.1 e.1.2.2.1 e.1.2.2.2.1) = [472, 1147, 1476, 1326, 1527, 1360, 1684, 1588, 1469, 1521, 1512, 1490, 1504, 1524, 1480, 1487].filterMap (fun i => lq_at lw_tbl i) := rfl
theorem pk_10 : ∀ e ∈ pl_10, e.2.all (fun c => c.all (fun q => decide (decode e.1.2.1 q.1 = .ok q.2))) = true := List.forall_mem_cons.mpr ⟨imk_160, List.forall_mem_cons.mpr ⟨imk_161, List.forall_mem_cons.mpr ⟨imk_162, List.forall_mem_cons.mpr ⟨imk_163, List.forall_mem_cons.mpr ⟨imk_164, List.forall_mem_cons.mpr ⟨imk_165, List.forall_mem_cons.mpr ⟨imk_166, List.forall_mem_cons.mpr ⟨imk_167, List.forall_mem_cons.mpr ⟨imk_168, List.forall_mem_cons.mpr ⟨imk_169, List.forall_mem_cons.mpr ⟨imk_170, List.forall_mem_cons.mpr ⟨imk_171, List.forall_mem_cons.mpr ⟨imk_172, List.forall_mem_cons.mpr ⟨imk_173, List.forall_mem_cons.mpr ⟨imk_174, List.forall_mem_cons.mpr ⟨imk_175, fun _ h => absurd h List.not_mem_nil⟩⟩⟩⟩⟩⟩⟩⟩⟩⟩⟩⟩⟩⟩⟩⟩
set_option maxRecDepth 100000 in
theorem pc_11 : pl_11.map (fun e => Cond.code e.1.1 e.1.2.1 e.1.2.2.1 e.1.2.2.2.1) = [1497, 1542, 1319, 1323, 1334, 1357, 1351, 1405, 1347, 1343, 1364, 1339, 1330, 1368, 1372, 1380].filterMap (fun i => lq_at lw_tbl i) := rfl
theorem pk_11 : ∀ e ∈ pl_11, e.2.all (fun c => c.all (fun q => decide (decode e.1.2.1 q.1 = .ok q.2))) = true := List.forall_mem_cons.mpr ⟨imk_176, List.forall_mem_cons.mpr ⟨imk_177, List.forall_mem_cons.mpr ⟨imk_178, List.forall_mem_cons.mpr ⟨imk_179, List.forall_mem_cons.mpr ⟨imk_180, List.forall_mem_cons.mpr ⟨imk_181, List.forall_mem_cons.mpr ⟨imk_182, List.forall_mem_cons.mpr ⟨imk_183, List.forall_mem_cons.mpr ⟨imk_184, List.forall_mem_cons.mpr ⟨imk_185, List.forall_mem_cons.mpr ⟨imk_186, List.forall_mem_cons.mpr ⟨imk_187, List.forall_mem_cons.mpr ⟨imk_188, List.forall_mem_cons.mpr ⟨imk_189, List.forall_mem_cons.mpr ⟨imk_190, List.forall_mem_cons.mpr ⟨imk_191, fun _ h => absurd h List.not_mem_nil⟩⟩⟩⟩⟩⟩⟩⟩⟩⟩⟩⟩⟩⟩⟩⟩
set_option maxRecDepth 100000 in
theorem pc_12 : pl_12.map (fun e => Cond.code e.1.1 e.1.2.1 e.1.2.2.1 e.1.2.2.2.1) = [1376, 1400, 1396, 1392, 1388, 1460, 1384, 1570, 1567, 1562, 1484, 1494, 1501, 1709, 1465, 1508].filterMap (fun i => lq_at lw_tbl i) := rfl
theorem pk_12 : ∀ e ∈ pl_12, e.2.all (fun c => c.all (fun q => decide (decode e.1.2.1 q.1 = .ok q.2))) = true := List.forall_mem_cons.mpr ⟨imk_192, List.forall_mem_cons.mpr ⟨imk_193, List.forall_mem_cons.mpr ⟨imk_194, List.forall_mem_cons.mpr ⟨imk_195, List.forall_mem_cons.mpr ⟨imk_196, List.forall_mem_cons.mpr ⟨imk_197, List.forall_mem_cons.mpr ⟨imk_198, List.forall_mem_cons.mpr ⟨imk_199, List.forall_mem_cons.mpr ⟨imk_200, List.forall_mem_cons.mpr ⟨imk_201, List.forall_mem_cons.mpr ⟨imk_202, List.forall_mem_cons.mpr ⟨imk_203, List.forall_mem_cons.mpr ⟨imk_204, List.forall_mem_cons.mpr ⟨imk_205, List.forall_mem_cons.mpr ⟨imk_206, List.forall_mem_cons.mpr ⟨imk_207, fun _ h => absurd h List.not_mem_nil⟩⟩⟩⟩⟩⟩⟩⟩⟩⟩⟩⟩⟩⟩⟩⟩
set_option maxRecDepth 100000 in
theorem pc_13 : pl_13.map (fun e => Cond.code e.1.1 e.1.2.1 e.1.2.2.1 e.1.2.2.2.1) = [1517, 1531, 1536, 1554, 1584, 1580, 1546, 1576, 1573, 1558, 1601, 1597, 1609, 1618, 1550, 1592].filterMap (fun i => lq_at lw_tbl i) := rfl
theorem pk_13 : ∀ e ∈ pl_13, e.2.all (fun c => c.all (fun q => decide (decode e.1.2.1 q.1 = .ok q.2))) = true := List.forall_mem_cons.mpr ⟨imk_208, List.forall_mem_cons.mpr ⟨imk_209, List.forall_mem_cons.mpr ⟨imk_210, List.forall_mem_cons.mpr ⟨imk_211, List.forall_mem_cons.mpr ⟨imk_212, List.forall_mem_cons.mpr ⟨imk_213, List.forall_mem_cons.mpr ⟨imk_214, List.forall_mem_cons.mpr ⟨imk_215, List.forall_mem_cons.mpr ⟨imk_216, List.forall_mem_cons.mpr ⟨imk_217, List.forall_mem_cons.mpr ⟨imk_218, List.forall_mem_cons.mpr ⟨imk_219, List.forall_mem_cons.mpr ⟨imk_220, List.forall_mem_cons.mpr ⟨imk_221, List.forall_mem_cons.mpr ⟨imk_222, List.forall_mem_cons.mpr ⟨imk_223, fun _ h => absurd h List.not_mem_nil⟩⟩⟩⟩⟩⟩⟩⟩⟩⟩⟩⟩⟩⟩⟩⟩
set_option maxRecDepth 100000 in
theorem pc_14 : pl_14.map (fun e => Cond.code e.1.1 e.1.2.1 e.1.2.2.1 e.1.2.2.2.1) = [1605, 1614, 1626, 1631, 1622, 1648, 1635, 1639, 1644, 1656, 1652, 1660, 1664, 1672, 1668, 1676].filterMap (fun i => lq_at lw_tbl i) := rfl
theorem pk_14 : ∀ e ∈ pl_14, e.2.all (fun c => c.all (fun q => decide (decode e.1.2.1 q.1 = .ok q.2))) = true := List.forall_mem_cons.mpr ⟨imk_224, List.forall_mem_cons.mpr ⟨imk_225, List.forall_mem_cons.mpr ⟨imk_226, List.forall_mem_cons.mpr ⟨imk_227, List.forall_mem_cons.mpr ⟨imk_228, List.forall_mem_cons.mpr ⟨imk_229, List.forall_mem_cons.mpr ⟨imk_230, List.forall_mem_cons.mpr ⟨imk_231, List.forall_mem_cons.mpr ⟨imk_232, List.forall_mem_cons.mpr ⟨imk_233, List.forall_mem_cons.mpr ⟨imk_234, List.forall_mem_cons.mpr ⟨imk_235, List.forall_mem_cons.mpr ⟨imk_236, List.forall_mem_cons.mpr ⟨imk_237, List.forall_mem_cons.mpr ⟨imk_238, List.forall_mem_cons.mpr ⟨imk_239, fun _ h => absurd h List.not_mem_nil⟩⟩⟩⟩⟩⟩⟩⟩⟩⟩⟩⟩⟩⟩⟩⟩
set_option maxRecDepth 100000 in
theorem pc_15 : pl_15.map (fun e => Cond.code e.1.1 e.1.2.1 e.1.2.2.1 e.1.2.2.2.1) = [1681, 1692, 1688, 1700, 1704, 1713, 1721, 1717, 1729, 1725, 1733, 1737, 1741, 1753, 1749, 1745].filterMap (fun i => lq_at lw_tbl i) := rfl
theorem pk_15 : ∀ e ∈ pl_15, e.2.all (fun c => c.all (fun q => decide (decode e.1.2.1 q.1 = .ok q.2))) = true := List.forall_mem_cons.mpr ⟨imk_240, List.forall_mem_cons.mpr ⟨imk_241, List.forall_mem_cons.mpr ⟨imk_242, List.forall_mem_cons.mpr ⟨imk_243, List.forall_mem_cons.mpr ⟨imk_244, List.forall_mem_cons.mpr ⟨imk_245, List.forall_mem_cons.mpr ⟨imk_246, List.forall_mem_cons.mpr ⟨imk_247, List.forall_mem_cons.mpr ⟨imk_248, List.forall_mem_cons.mpr ⟨imk_249, List.forall_mem_cons.mpr ⟨imk_250, List.forall_mem_cons.mpr ⟨imk_251, List.forall_mem_cons.mpr ⟨imk_252, List.forall_mem_cons.mpr ⟨imk_253, List.forall_mem_cons.mpr ⟨imk_254, List.forall_mem_cons.mpr ⟨imk_255, fun _ h => absurd h List.not_mem_nil⟩⟩⟩⟩⟩⟩⟩⟩⟩⟩⟩⟩⟩⟩⟩⟩
set_option maxRecDepth 100000 in
theorem pc_16 : pl_16.map (fun e => Cond.code e.1.1 e.1.2.1 e.1.2.2.1 e.1.2.2.2.1) = [1757, 1765, 1761, 1776, 1773, 1769, 1784, 1780, 1789, 1793, 1801, 1797, 1805, 1695, 611].filterMap (fun i => lq_at lw_tbl i) := rfl
theorem pk_16 : ∀ e ∈ pl_16, e.2.all (fun c => c.all (fun q => decide (decode e.1.2.1 q.1 = .ok q.2))) = true := List.forall_mem_cons.mpr ⟨imk_256, List.forall_mem_cons.mpr ⟨imk_257, List.forall_mem_cons.mpr ⟨imk_258, List.forall_mem_cons.mpr ⟨imk_259, List.forall_mem_cons.mpr ⟨imk_260, List.forall_mem_cons.mpr ⟨imk_261, List.forall_mem_cons.mpr ⟨imk_262, List.forall_mem_cons.mpr ⟨imk_263, List.forall_mem_cons.mpr ⟨imk_264, List.forall_mem_cons.mpr ⟨imk_265, List.forall_mem_cons.mpr ⟨imk_266, List.forall_mem_cons.mpr ⟨imk_267, List.forall_mem_cons.mpr ⟨imk_268, List.forall_mem_cons.mpr ⟨imk_269, List.forall_mem_cons.mpr ⟨imk_270, fun _ h => absurd h List.not_mem_nil⟩⟩⟩⟩⟩⟩⟩⟩⟩⟩⟩⟩⟩⟩⟩
theorem pd_code_of {l : List (pm_M × pd_I)} {ps : List Nat} (h : l.map (fun e => Cond.code e.1.1 e.1.2.1 e.1.2.2.1 e.1.2.2.2.1) = ps.filterMap (fun i => lq_at lw_tbl i)) : ∀ e ∈ l, Cond.code e.1.1 e.1.2.1 e.1.2.2.1 e.1.2.2.2.1 ∈ PG := by
  intro e he
  have h1 : Cond.code e.1.1 e.1.2.1 e.1.2.2.1 e.1.2.2.2.1 ∈ l.map (fun e => Cond.code e.1.1 e.1.2.1 e.1.2.2.1 e.1.2.2.2.1) := List.mem_map.mpr ⟨e, he, rfl⟩
  rw [h] at h1
  obtain ⟨i, -, hi⟩ := List.mem_filterMap.mp h1
  exact pd_w (lq_atx hi) rfl
theorem pd_codes : ∀ l ∈ pd_L, ∀ e ∈ l, Cond.code e.1.1 e.1.2.1 e.1.2.2.1 e.1.2.2.2.1 ∈ PG := List.forall_mem_cons.mpr ⟨pd_code_of pc_0, List.forall_mem_cons.mpr ⟨pd_code_of pc_1, List.forall_mem_cons.mpr ⟨pd_code_of pc_2, List.forall_mem_cons.mpr ⟨pd_code_of pc_3, List.forall_mem_cons.mpr ⟨pd_code_of pc_4, List.forall_mem_cons.mpr ⟨pd_code_of pc_5, List.forall_mem_cons.mpr ⟨pd_code_of pc_6, List.forall_mem_cons.mpr ⟨pd_code_of pc_7, List.forall_mem_cons.mpr ⟨pd_code_of pc_8, List.forall_mem_cons.mpr ⟨pd_code_of pc_9, List.forall_mem_cons.mpr ⟨pd_code_of pc_10, List.forall_mem_cons.mpr ⟨pd_code_of pc_11, List.forall_mem_cons.mpr ⟨pd_code_of pc_12, List.forall_mem_cons.mpr ⟨pd_code_of pc_13, List.forall_mem_cons.mpr ⟨pd_code_of pc_14, List.forall_mem_cons.mpr ⟨pd_code_of pc_15, List.forall_mem_cons.mpr ⟨pd_code_of pc_16, fun _ h => absurd h List.not_mem_nil⟩⟩⟩⟩⟩⟩⟩⟩⟩⟩⟩⟩⟩⟩⟩⟩⟩
theorem pd_decs : ∀ l ∈ pd_L, ∀ e ∈ l, e.2.all (fun c => c.all (fun q => decide (decode e.1.2.1 q.1 = .ok q.2))) = true := List.forall_mem_cons.mpr ⟨pk_0, List.forall_mem_cons.mpr ⟨pk_1, List.forall_mem_cons.mpr ⟨pk_2, List.forall_mem_cons.mpr ⟨pk_3, List.forall_mem_cons.mpr ⟨pk_4, List.forall_mem_cons.mpr ⟨pk_5, List.forall_mem_cons.mpr ⟨pk_6, List.forall_mem_cons.mpr ⟨pk_7, List.forall_mem_cons.mpr ⟨pk_8, List.forall_mem_cons.mpr ⟨pk_9, List.forall_mem_cons.mpr ⟨pk_10, List.forall_mem_cons.mpr ⟨pk_11, List.forall_mem_cons.mpr ⟨pk_12, List.forall_mem_cons.mpr ⟨pk_13, List.forall_mem_cons.mpr ⟨pk_14, List.forall_mem_cons.mpr ⟨pk_15, List.forall_mem_cons.mpr ⟨pk_16, fun _ h => absurd h List.not_mem_nil⟩⟩⟩⟩⟩⟩⟩⟩⟩⟩⟩⟩⟩⟩⟩⟩⟩
theorem pd_at_mem {k : Nat} {e : pm_M × pd_I} (h : pd_at k = some e) : ∃ l ∈ pd_L, e ∈ l := by
  unfold pd_at at h
  split at h
  · rename_i c e1
    exact ⟨c, pm_nth_mem e1, pm_nth_mem h⟩
  · cases h
theorem pm_nth_get {α : Type} : ∀ (l : List α) (n : Nat), pm_nth l n = l[n]?
  | [], n => by simp [pm_nth]
  | x :: r, 0 => by simp [pm_nth]
  | x :: r, n + 1 => by rw [pm_nth, pm_nth_get r n]; simp
theorem pd_ct {α : Type} (a b : α) : cond true a b = a := rfl
theorem pd_cf {α : Type} (a b : α) : cond false a b = b := rfl
theorem pd_at_a2 {k : Nat} {e : pm_M × pd_I} (h : pd_at k = some e) : pd_a2 k = some e := by
  unfold pd_a2
  cases hb : Nat.ble 1000 k with
  | false => exact h
  | true =>
    have hk := Nat.le_of_ble_eq_true hb
    have h2 : pm_nth pd_L (k / 16) = none := by
      rw [pm_nth_get]
      exact List.getElem?_eq_none (Nat.le_trans (show pd_L.length ≤ 62 by decide) (by omega))
    unfold pd_at at h
    rw [h2] at h
    cases h
theorem pd_lw_ok : ∀ e ∈ pd_lw, e.2.all (fun c => c.all (fun q => decide (decode e.1.2.1 q.1 = .ok q.2))) = true := List.forall_mem_cons.mpr ⟨imkL_law, List.forall_mem_cons.mpr ⟨imkL_court, List.forall_mem_cons.mpr ⟨imkL_between, List.forall_mem_cons.mpr ⟨imkL_gift, List.forall_mem_cons.mpr ⟨imkL_row, fun _ h => absurd h List.not_mem_nil⟩⟩⟩⟩⟩
theorem pd_a2_ok {k : Nat} {e : pm_M × pd_I} (h : pd_a2 k = some e) : e.2.all (fun c => c.all (fun q => decide (decode e.1.2.1 q.1 = .ok q.2))) = true := by
  unfold pd_a2 at h
  cases hb : Nat.ble 1000 k with
  | true =>
    rw [hb, pd_ct] at h
    exact pd_lw_ok e (pm_nth_mem h)
  | false =>
    rw [hb, pd_cf] at h
    obtain ⟨l, hl, hm⟩ := pd_at_mem h
    exact pd_decs l hl e hm
theorem pd_ins_ok (k pc : Nat) (i : Instr) (len : Nat) (h : pm_ins PT k pc = some (i, len)) : decode (pm_code PT k) pc = .ok (i, len) := by
  have h : pd_ins k pc = some (i, len) := h
  show decode (pd_m k).2.1 pc = .ok (i, len)
  unfold pd_ins at h
  unfold pd_m
  cases he : pd_a2 k with
  | none => rw [he] at h; cases h
  | some e =>
    rw [he] at h
    dsimp only at h ⊢
    have hd := pd_a2_ok he
    unfold pm_ch at h
    split at h
    · rename_i c e1
      have h1 := List.all_eq_true.mp hd c (pm_nth_mem e1)
      exact of_decide_eq_true (List.all_eq_true.mp h1 (pc, i, len) (pm_fd_mem h))
    · cases h
def pd_ipL : List Nat := [101, 99, 96, 94, 98, 93, 97, 95, 92, 100, 91, 102, 113, 90]
/-- of an owner: it is initialised, its name is a plain one -/
noncomputable def pd_chkO (o : Nat) (p : Nat) : Bool := pd_tb p (.initialized (pd_own o)) && plainName (pd_own o) && decide (pd_own o ≠ "java/lang/invoke/MethodHandle") && decide (pd_own o ≠ "java/lang/invoke/VarHandle")
theorem pd_O : pm_allI pd_chkO 0 pd_ipL = true := by decide +kernel
/-- of a method: its owner is its class -/
def pd_chkE (e : pm_M × pd_I) : Bool := decide (pd_own e.1.2.2.2.2.1 = e.1.1.cls) && (pm_nth pd_ipL e.1.2.2.2.2.1).isSome && (cond (Nat.ble 100 e.1.2.2.2.2.2.2) (decide (e.1.1.name = "<init>")) true)
theorem pd_E : pd_L.all (fun l => l.all pd_chkE) = true := by decide +kernel
theorem pd_okM {t : Nat} {e : pm_M × pd_I} (h : pd_at t = some e) : pm_okM PT PG t := by
  obtain ⟨l, hl, hm⟩ := pd_at_mem h
  have hc := pd_codes l hl e hm
  have hE := List.all_eq_true.mp (List.all_eq_true.mp pd_E l hl) e hm
  unfold pd_chkE at hE
  obtain ⟨hE1, hE3⟩ := Bool.and_eq_true_iff.mp hE
  obtain ⟨hE1, hE2⟩ := Bool.and_eq_true_iff.mp hE1
  have hE1 := of_decide_eq_true hE1
  obtain ⟨q, hq⟩ := Option.isSome_iff_exists.mp hE2
  have hO := pm_allI_at pd_O hq
  rw [Nat.zero_add] at hO
  unfold pd_chkO at hO
  obtain ⟨hO, o4⟩ := Bool.and_eq_true_iff.mp hO
  obtain ⟨hO, o3⟩ := Bool.and_eq_true_iff.mp hO
  obtain ⟨o1, o2⟩ := Bool.and_eq_true_iff.mp hO
  have em : pm_m PT t = e.1 := by
    show pd_m t = e.1
    unfold pd_m
    rw [pd_at_a2 h]
  unfold pm_okM pm_y pm_code pm_max pm_ret pm_o pm_init
  rw [em]
  refine ⟨by rw [← hE1]; exact o2, hE1, hc, by rw [← hE1]; exact pd_tb_in o1, ⟨by rw [← hE1]; exact of_decide_eq_true o3, by rw [← hE1]; exact of_decide_eq_true o4⟩, fun hi => ?_⟩
  rw [hi] at hE3
  exact of_decide_eq_true hE3
def pd_lay : List (List Nat) := [[381, 383, 385, 387], [329, 331, 333, 335], [262, 264, 266], [184, 186, 188, 190, 192, 194, 196, 198, 200], [311, 313, 315], [148, 150], [289, 291, 293, 295, 297, 299], [234, 236, 238, 240, 242, 244, 246], [132, 134], [353, 355, 357, 359, 361, 363, 365, 367], [404, 406, 408, 410, 412, 414, 416, 418, 420, 422, 424, 426, 428, 430], [1204, 1206, 1208, 1210, 1212, 1214, 1216, 1218, 1220, 1222, 1224, 1226, 1228, 1230, 1232, 1234, 1236, 1238, 1240, 1242, 1244, 1246, 1248, 1250, 1252, 1254, 1256, 1258, 1260, 1262, 1264, 1266, 1268, 1270, 1272, 1274, 1276, 1278, 1280, 1282, 1284, 1286, 1288, 1290, 1292, 1294, 1296, 1298, 1300, 1302, 1304, 1306, 1308, 1310, 1312]]
/-- of a class: its fields' words lie in the tables, its fields' types are right, its fields' names differ -/
noncomputable def pd_chkC (c : Nat) (ps : List Nat) : Bool := match pm_nth vwCl c, pm_nth pd_tyL c with
  | some q, some ty => decide (u_ws q.1 q.2.1 q.2.2 = ps.filterMap (fun i => lq_at lw_tbl i)) && (u_ws q.1 q.2.1 q.2.2).all goodWord && (List.range q.2.2).all (fun k => decide (parseFieldDescriptor (q.2.1 k).2.2.1 = some (ty k)) && decide (defaultValue (ty k) = vp_V (pd_df c) k)) && decide ((pd_df c).length = q.2.2)
  | _, _ => false
set_option maxRecDepth 100000 in
theorem pd_C : pm_allI pd_chkC 0 pd_lay = true := by decide +kernel

theorem pd_nmd : ∀ (c : Nat) (q : vw_C), vwCl[c]? = some q → ∀ a, a < q.2.2 → ∀ b, b < q.2.2 → a ≠ b → (q.2.1 a).2.1 ≠ (q.2.1 b).2.1 := by
  intro c q h
  match c, h with
  | 0, h => cases (Option.some.inj h : _ = q); exact nmX0
  | 1, h => cases (Option.some.inj h : _ = q); exact nmX1
  | 2, h => cases (Option.some.inj h : _ = q); exact nmX2
  | 3, h => cases (Option.some.inj h : _ = q); exact nmX3
  | 4, h => cases (Option.some.inj h : _ = q); exact nmX4
  | 5, h => cases (Option.some.inj h : _ = q); exact nmX5
  | 6, h => cases (Option.some.inj h : _ = q); exact nmX6
  | 7, h => cases (Option.some.inj h : _ = q); exact nmX7
  | 8, h => cases (Option.some.inj h : _ = q); exact nmX8
  | 9, h => cases (Option.some.inj h : _ = q); exact nmX9
  | 10, h => cases (Option.some.inj h : _ = q); exact nmX10
  | 11, h => cases (Option.some.inj h : _ = q); exact nmX11
  | c + 12, h => simp [vwCl] at h
theorem pd_refs : pd_dL.all (fun l => l.all (fun v => match v with | .ref _ => false | .retAddr _ => false | _ => true)) = true := by decide +kernel
theorem pd_noref (c : Nat) (aC : Nat → ClassId) (b : Nat) : (pd_df c).map (pm_tr aC b) = pd_df c := by
  unfold pd_df
  cases hc : pm_nth pd_dL c with
  | none => rfl
  | some l =>
    have h := List.all_eq_true.mp pd_refs l (pm_nth_mem hc)
    dsimp only
    have h2 : ∀ v ∈ l, pm_tr aC b v = id v := by
      intro v hv
      have h3 := List.all_eq_true.mp h v hv
      cases v <;> first | rfl | cases h3
    rw [List.map_congr_left h2, List.map_id]
def pd_kb (t : Nat) (ty : FieldType) : Bool := match t, ty with
  | 0, .int => true
  | 1, .long => true
  | 2, .object _ => true
  | 2, .array _ => true
  | 3, .boolean => true
  | _, _ => false
theorem pd_kb_ok {t : Nat} {ty : FieldType} (h : pd_kb t ty = true) : pm_kindOk t ty := by
  unfold pd_kb at h
  split at h
  · exact Or.inl ⟨rfl, rfl⟩
  · exact Or.inr (Or.inl ⟨rfl, rfl⟩)
  · exact Or.inr (Or.inr (Or.inl ⟨rfl, fun a => ⟨rfl, rfl⟩⟩))
  · exact Or.inr (Or.inr (Or.inl ⟨rfl, fun a => ⟨rfl, rfl⟩⟩))
  · exact Or.inr (Or.inr (Or.inr ⟨rfl, rfl⟩))
  · cases h
noncomputable def pd_chkF (o : Nat) (e : Nat × (Nat × Nat × Nat) × Nat) : Bool := match pm_nth vwCl e.2.1.1, pm_nth pd_tyL e.2.1.1 with
  | some q, some ty => (pm_nth pd_lay e.2.1.1).isSome && (decide (e.2.1.2.1 < q.2.2) && (decide ((q.2.1 e.2.1.2.1).1 = q.1) && (pd_tb e.2.2 (.fieldLink (pd_own o) e.1 q.1 (q.2.1 e.2.1.2.1).2.1 (q.2.1 e.2.1.2.1).2.2.1) && (pd_kb (e.2.1.2.2 % 10) (ty e.2.1.2.1) && (cond (Nat.ble 10 e.2.1.2.2) (q.2.1 e.2.1.2.1).2.2.2 (!(q.2.1 e.2.1.2.1).2.2.2) && cond (Nat.ble 10 e.2.1.2.2 && Nat.ble e.2.1.2.2 19) (decide (pd_own o = q.1)) true)))))
  | _, _ => false
theorem pd_F : pm_allI (fun o l => l.all (pd_chkF o)) 0 pd_FL = true := by decide +kernel
theorem pd_classOf {c : Nat} {ps : List Nat} (hp : pm_nth pd_lay c = some ps) {q : vw_C} (hq : pm_nth vwCl c = some q) {ty : Nat → FieldType} (ht : pm_nth pd_tyL c = some ty) : (∀ w ∈ u_ws q.1 q.2.1 q.2.2, w ∈ PG) ∧ (∀ k, k < q.2.2 → parseFieldDescriptor (q.2.1 k).2.2.1 = some (ty k) ∧ defaultValue (ty k) = vp_V (pd_df c) k) ∧ (pd_df c).length = q.2.2 := by
  have h := pm_allI_at pd_C hp
  rw [Nat.zero_add] at h
  unfold pd_chkC at h
  rw [hq, ht] at h
  dsimp only at h
  obtain ⟨h, h4⟩ := Bool.and_eq_true_iff.mp h
  obtain ⟨h, h3⟩ := Bool.and_eq_true_iff.mp h
  obtain ⟨h1, h2⟩ := Bool.and_eq_true_iff.mp h
  have h1 := of_decide_eq_true h1
  refine ⟨fun w hw => ?_, fun k hk => ?_, of_decide_eq_true h4⟩
  · have hg := List.all_eq_true.mp h2 w hw
    rw [h1] at hw
    obtain ⟨i, -, hi⟩ := List.mem_filterMap.mp hw
    exact pd_w (lq_atx hi) hg
  · have h5 := Bool.and_eq_true_iff.mp (List.all_eq_true.mp h3 k (List.mem_range.mpr hk))
    exact ⟨of_decide_eq_true h5.1, of_decide_eq_true h5.2⟩
theorem pd_okF : pm_okF PT PG := by
  intro o j ci f t h
  have h : pd_fld o j = some (ci, f, t) := h
  unfold pd_fld at h
  split at h
  case h_2 => cases h
  case h_1 l e1 =>
  obtain ⟨e, he, e2⟩ := Option.map_eq_some_iff.mp h
  have hc := pm_allI_at pd_F e1
  rw [Nat.zero_add] at hc
  have hc := List.all_eq_true.mp hc (j, e) (pm_fd_mem he)
  obtain ⟨⟨ci', f', t'⟩, pos⟩ := e
  cases e2
  unfold pd_chkF at hc
  dsimp only at hc
  split at hc
  case h_2 => cases hc
  case h_1 q ty q1 q2 =>
  obtain ⟨c0, hc⟩ := Bool.and_eq_true_iff.mp hc
  obtain ⟨c1, hc⟩ := Bool.and_eq_true_iff.mp hc
  obtain ⟨c2, hc⟩ := Bool.and_eq_true_iff.mp hc
  obtain ⟨c3, hc⟩ := Bool.and_eq_true_iff.mp hc
  obtain ⟨c4, hc⟩ := Bool.and_eq_true_iff.mp hc
  obtain ⟨c5, c6⟩ := Bool.and_eq_true_iff.mp hc
  obtain ⟨ps, hps⟩ := Option.isSome_iff_exists.mp c0
  obtain ⟨k1, k2, k3⟩ := pd_classOf hps q1 q2
  have hq : vwCl[ci]? = some q := by rw [← pm_nth_get]; exact q1
  refine ⟨q.1, q.2.1, q.2.2, ty, hq, of_decide_eq_true c1, of_decide_eq_true c2, k1, pd_tb_in c3, pd_nmd ci q hq, fun k hk => (k2 k hk).1, pd_kb_ok c4, fun ht => ?_, fun ht => ?_, fun ht ht2 => ?_⟩
  · have hb : Nat.ble 10 t = false := by
      cases hb : Nat.ble 10 t with
      | false => rfl
      | true => have := Nat.le_of_ble_eq_true hb; omega
    rw [hb] at c5
    simpa using c5
  · have hb : Nat.ble 10 t = true := Nat.ble_eq_true_of_le ht
    rw [hb] at c5
    exact c5
  · have hb : Nat.ble 10 t = true := Nat.ble_eq_true_of_le ht
    have hb2 : Nat.ble t 19 = true := Nat.ble_eq_true_of_le (by omega)
    rw [hb, hb2] at c6
    exact of_decide_eq_true c6
def pd_pr (t n : Nat) : Bool := decide ((parseMethodDescriptor (pm_y PT t).desc).map (fun d => d.parameters.length) = some n)
noncomputable def pd_chkW (o : Nat) (e : Nat × (Nat × Nat) × List Nat) : Bool := match e.2.1.1, e.2.2 with
  | 0, [a, b, c] => (pd_at e.2.1.2).isSome && (pd_tb a (.methodLink (pd_own o) e.1 (pm_y PT e.2.1.2)) && (pd_tb b (.instanceMethod (pm_y PT e.2.1.2)) && (pd_tb c (.selects (pm_y PT e.2.1.2).cls (pm_y PT e.2.1.2) (pm_y PT e.2.1.2)) && (Nat.ble 1 (pm_na PT e.2.1.2) && (pd_pr e.2.1.2 (pm_na PT e.2.1.2 - 1) && (match pm_nth vwCl (pm_ci PT e.2.1.2) with
    | some q => decide (q.1 = (pm_y PT e.2.1.2).cls)
    | none => false))))))
  | 2, [a, b] => (pd_at e.2.1.2).isSome && (pd_tb a (.methodLink (pd_own o) e.1 (pm_y PT e.2.1.2)) && (pd_tb b (.static (pm_y PT e.2.1.2)) && pd_pr e.2.1.2 (pm_na PT e.2.1.2)))
  | 3, [a, b] => (pd_at e.2.1.2).isSome && (pd_nb a (.methodLinkNest (pd_own o) e.1 (pm_y PT e.2.1.2) "GiftsOfCourts") && (pd_tb b (.static (pm_y PT e.2.1.2)) && pd_pr e.2.1.2 (pm_na PT e.2.1.2)))
  | 4, [a, b] => (pd_at e.2.1.2).isSome && (pd_tb a (.methodLink (pd_own o) e.1 (pm_y PT e.2.1.2)) && (pd_tb b (.instanceMethod (pm_y PT e.2.1.2)) && (decide ((pm_y PT e.2.1.2).name = "<init>") && ((pm_ret PT e.2.1.2).isNone && (Nat.ble 1 (pm_na PT e.2.1.2) && pd_pr e.2.1.2 (pm_na PT e.2.1.2 - 1))))))
  | 5, [a, b] => (pd_at e.2.1.2).isSome && (pd_nb a (.methodLinkNest (pd_own o) e.1 (pm_y PT e.2.1.2) "GiftsOfCourts") && (pd_tb b (.instanceMethod (pm_y PT e.2.1.2)) && (decide ((pm_y PT e.2.1.2).name = "<init>") && ((pm_ret PT e.2.1.2).isNone && (Nat.ble 1 (pm_na PT e.2.1.2) && pd_pr e.2.1.2 (pm_na PT e.2.1.2 - 1))))))
  | 6, [a] => pd_tb a (.methodLink (pd_own o) e.1 Lib.objectInit)
  | 7, [a] => pd_tb a (.methodLink (pd_own o) e.1 Lib.Math.min.name)
  | 8, [a] => pd_tb a (.methodLink (pd_own o) e.1 Lib.Math.max.name)
  | 9, [a] => pd_tb a (.methodLink (pd_own o) e.1 arraycopyName)
  | 10, [a] => pd_tb a (.methodLink (pd_own o) e.1 st_yL)
  | 11, [a] => pd_tb a (.methodLink (pd_own o) e.1 st_yA)
  | _, _ => false
theorem pd_pr_ok {t n : Nat} (h : pd_pr t n = true) : pm_pars PT t n := by
  have h1 : (parseMethodDescriptor (pm_y PT t).desc).map (fun d => d.parameters.length) = some n := of_decide_eq_true h
  exact h1
end MH00listsx12
section MH00listsx13
theorem wl_0_0 : ml_0_0.all (pd_chkW 0) = true := by decide +kernel
theorem wl_0 : ml_0.all (pd_chkW 0) = true := by
  unfold ml_0
  simp only [List.all_append, wl_0_0, Bool.and_self, List.all_nil]
theorem wl_1_0 : ml_1_0.all (pd_chkW 1) = true := by decide +kernel
theorem wl_1 : ml_1.all (pd_chkW 1) = true := by
  unfold ml_1
  simp only [List.all_append, wl_1_0, Bool.and_self, List.all_nil]
theorem wl_2_0 : ml_2_0.all (pd_chkW 2) = true := by decide +kernel
theorem wl_2 : ml_2.all (pd_chkW 2) = true := by
  unfold ml_2
  simp only [List.all_append, wl_2_0, Bool.and_self, List.all_nil]
theorem wl_3_0 : ml_3_0.all (pd_chkW 3) = true := by decide +kernel
theorem wl_3 : ml_3.all (pd_chkW 3) = true := by
  unfold ml_3
  simp only [List.all_append, wl_3_0, Bool.and_self, List.all_nil]
theorem wl_4_0 : ml_4_0.all (pd_chkW 4) = true := by decide +kernel
theorem wl_4 : ml_4.all (pd_chkW 4) = true := by
  unfold ml_4
  simp only [List.all_append, wl_4_0, Bool.and_self, List.all_nil]
theorem wl_5_0 : ml_5_0.all (pd_chkW 5) = true := by decide +kernel
theorem wl_5 : ml_5.all (pd_chkW 5) = true := by
  unfold ml_5
  simp only [List.all_append, wl_5_0, Bool.and_self, List.all_nil]
theorem wl_6_0 : ml_6_0.all (pd_chkW 6) = true := by decide +kernel
theorem wl_6 : ml_6.all (pd_chkW 6) = true := by
  unfold ml_6
  simp only [List.all_append, wl_6_0, Bool.and_self, List.all_nil]
theorem wl_7_0 : ml_7_0.all (pd_chkW 7) = true := by decide +kernel
theorem wl_7 : ml_7.all (pd_chkW 7) = true := by
  unfold ml_7
  simp only [List.all_append, wl_7_0, Bool.and_self, List.all_nil]
theorem wl_8_0 : ml_8_0.all (pd_chkW 8) = true := by decide +kernel
theorem wl_8 : ml_8.all (pd_chkW 8) = true := by
  unfold ml_8
  simp only [List.all_append, wl_8_0, Bool.and_self, List.all_nil]
theorem wl_9_0 : ml_9_0.all (pd_chkW 9) = true := by decide +kernel
theorem wl_9 : ml_9.all (pd_chkW 9) = true := by
  unfold ml_9
  simp only [List.all_append, wl_9_0, Bool.and_self, List.all_nil]
theorem wl_10_0 : ml_10_0.all (pd_chkW 10) = true := by decide +kernel
theorem wl_10_1 : ml_10_1.all (pd_chkW 10) = true := by decide +kernel
theorem wl_10_2 : ml_10_2.all (pd_chkW 10) = true := by decide +kernel
theorem wl_10_3 : ml_10_3.all (pd_chkW 10) = true := by decide +kernel
theorem wl_10_4 : ml_10_4.all (pd_chkW 10) = true := by decide +kernel
theorem wl_10 : ml_10.all (pd_chkW 10) = true := by
  unfold ml_10
  simp only [List.all_append, wl_10_0, wl_10_1, wl_10_2, wl_10_3, wl_10_4, Bool.and_self, List.all_nil]
theorem wl_11_0 : ml_11_0.all (pd_chkW 11) = true := by decide +kernel
theorem wl_11_1 : ml_11_1.all (pd_chkW 11) = true := by decide +kernel
theorem wl_11_2 : ml_11_2.all (pd_chkW 11) = true := by decide +kernel
theorem wl_11_3 : ml_11_3.all (pd_chkW 11) = true := by decide +kernel
theorem wl_11 : ml_11.all (pd_chkW 11) = true := by
  unfold ml_11
  simp only [List.all_append, wl_11_0, wl_11_1, wl_11_2, wl_11_3, Bool.and_self, List.all_nil]
theorem wl_12 : ml_12.all (pd_chkW 12) = true := by
  unfold ml_12
  simp only [List.all_append, Bool.and_self, List.all_nil]
theorem wl_13_0 : ml_13_0.all (pd_chkW 13) = true := by decide +kernel
theorem wl_13_1 : ml_13_1.all (pd_chkW 13) = true := by decide +kernel
theorem wl_13_2 : ml_13_2.all (pd_chkW 13) = true := by decide +kernel
theorem wl_13_3 : ml_13_3.all (pd_chkW 13) = true := by decide +kernel
theorem wl_13_4 : ml_13_4.all (pd_chkW 13) = true := by decide +kernel
theorem wl_13 : ml_13.all (pd_chkW 13) = true := by
  unfold ml_13
  simp only [List.all_append, wl_13_0, wl_13_1, wl_13_2, wl_13_3, wl_13_4, Bool.and_self, List.all_nil]
theorem pd_W : pm_allI (fun o l => l.all (pd_chkW o)) 0 pd_ML = true := by
  unfold pd_ML
  simp only [pm_allI, Nat.zero_add, Nat.reduceAdd, wl_0, wl_1, wl_2, wl_3, wl_4, wl_5, wl_6, wl_7, wl_8, wl_9, wl_10, wl_11, wl_12, wl_13, Bool.and_self]
end MH00listsx13
