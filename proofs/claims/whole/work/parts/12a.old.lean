/-- the length of an old array of ints -/
theorem V_alenS {K : KT} {d cl sl : Nat} {Q : QT} {pc : Nat} {L : List (Option Value)} {st : List Value} {n : Nat} {mi : MI} {mr : MR} {a len : Nat} {f : Nat → Int32} {v : Int32} (hd : decode K.2.1 pc = .ok (.arraylength, 1)) (ha : a < 32) (hT : ∀ (G : GT) (U : State) (H : Heap), gO G U H → va_T .int (G.1 a) len (fun j => .int (f j)) (gA G) U H) (hv : Int32.ofNat len = v)
    (kk : V K d cl sl Q (pc + 1) L (.int v :: st) n mi mr) : V K d cl sl Q pc L (.ref a :: st) n mi mr := by
  intro G p l e R s m args below meth c Z mc ms C hR H locs cells slots ls hH hS hc hs hl
  have k2 := kk G p l e R s m args below meth c Z mc ms C hR H locs cells slots ls hH hS hc hs hl
  have hT2 := hT G s s.heap C.2.2.2.2.2.2.2.1.2.2.2.2
  rw [← gAd_old G ha] at hT2
  exact va_tlen C.1 C.2.1 hT2 hS hv hd k2
