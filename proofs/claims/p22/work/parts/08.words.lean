/-! the words, the methods -/
def CodeAll (μ : MI) (full : List CE) : Prop := ∀ q ∈ full, ∀ op, q.2.2 = some op → OpOk μ q.2.1 q.1 op
theorem ce_nil {μ : MI} : CodeAll μ [] := fun q h => by cases h
theorem ce_st {μ : MI} {pc len : Nat} {r : List CE} (h : CodeAll μ r) : CodeAll μ ((pc, len, none) :: r) := fun q hq op ho => by
  rcases List.mem_cons.mp hq with e | e
  · rw [e] at ho; cases ho
  · exact h q e op ho
theorem ce_op {μ : MI} {pc len : Nat} {op : OP} {r : List CE} (h1 : OpOk μ len pc op) (h : CodeAll μ r) : CodeAll μ ((pc, len, some op) :: r) := fun q hq op' ho => by
  rcases List.mem_cons.mp hq with e | e
  · subst e; cases ho; exact h1
  · exact h q e op' ho
theorem sw_all {pc : Nat} {lo : Int} {offs : Array Int} {cs : List (Int32 × Nat)} {dflt : Nat} (h : (List.range offs.size).all (fun j => match offs[j]? with
    | some off => decide ((pc : Int) + off = (swS (Int32.ofInt (lo + (j : Int))) dflt cs : Int))
    | none => false) = true) : ∀ j, j < offs.size → ∃ off, offs[j]? = some off ∧ (pc : Int) + off = (swS (Int32.ofInt (lo + (j : Int))) dflt cs : Int) := by
  intro j hj
  have h1 := List.all_eq_true.mp h j (List.mem_range.mpr hj)
  cases hc : offs[j]? with
  | none => rw [hc] at h1; cases h1
  | some off => rw [hc] at h1; exact ⟨off, rfl, of_decide_eq_true h1⟩
theorem wd0 : (Jvm.Cond.selects "SaleRounds$Reader" ({ cls := "SaleRounds$Reader", name := "advance", desc := "()V" } : Jvm.MethodName) ({ cls := "SaleRounds$Reader", name := "advance", desc := "()V" } : Jvm.MethodName)) ∈ wsG := twS 0 rfl rfl
theorem wd1 : (Jvm.Cond.selects "SaleRounds$Reader" ({ cls := "SaleRounds$Reader", name := "takeWord", desc := "()V" } : Jvm.MethodName) ({ cls := "SaleRounds$Reader", name := "takeWord", desc := "()V" } : Jvm.MethodName)) ∈ wsG := twS 1 rfl rfl
theorem wd2 : (Jvm.Cond.selects "SaleRounds$Reader" ({ cls := "SaleRounds$Reader", name := "takeNumber", desc := "()V" } : Jvm.MethodName) ({ cls := "SaleRounds$Reader", name := "takeNumber", desc := "()V" } : Jvm.MethodName)) ∈ wsG := twS 2 rfl rfl
theorem wd3 : (Jvm.Cond.selects "SaleRounds$Reader" ({ cls := "SaleRounds$Reader", name := "readLand", desc := "(LSaleRounds$Book;)Z" } : Jvm.MethodName) ({ cls := "SaleRounds$Reader", name := "readLand", desc := "(LSaleRounds$Book;)Z" } : Jvm.MethodName)) ∈ wsG := twS 3 rfl rfl
theorem wd4 : (Jvm.Cond.selects "SaleRounds$Reader" ({ cls := "SaleRounds$Reader", name := "newName", desc := "(LSaleRounds$Names;I)I" } : Jvm.MethodName) ({ cls := "SaleRounds$Reader", name := "newName", desc := "(LSaleRounds$Names;I)I" } : Jvm.MethodName)) ∈ wsG := twS 4 rfl rfl
theorem wd5 : (Jvm.Cond.selects "SaleRounds$Reader" ({ cls := "SaleRounds$Reader", name := "fail", desc := "(I)Z" } : Jvm.MethodName) ({ cls := "SaleRounds$Reader", name := "fail", desc := "(I)Z" } : Jvm.MethodName)) ∈ wsG := twS 5 rfl rfl
theorem wd6 : (Jvm.Cond.selects "SaleRounds$Reader" ({ cls := "SaleRounds$Reader", name := "numberWithin", desc := "(II)I" } : Jvm.MethodName) ({ cls := "SaleRounds$Reader", name := "numberWithin", desc := "(II)I" } : Jvm.MethodName)) ∈ wsG := twS 6 rfl rfl
theorem wd7 : (Jvm.Cond.selects "SaleRounds$Reader" ({ cls := "SaleRounds$Reader", name := "lineEnds", desc := "()Z" } : Jvm.MethodName) ({ cls := "SaleRounds$Reader", name := "lineEnds", desc := "()Z" } : Jvm.MethodName)) ∈ wsG := twS 7 rfl rfl
theorem wd8 : (Jvm.Cond.selects "SaleRounds$Reader" ({ cls := "SaleRounds$Reader", name := "readGood", desc := "(LSaleRounds$Book;)Z" } : Jvm.MethodName) ({ cls := "SaleRounds$Reader", name := "readGood", desc := "(LSaleRounds$Book;)Z" } : Jvm.MethodName)) ∈ wsG := twS 8 rfl rfl
theorem wd9 : (Jvm.Cond.selects "SaleRounds$Reader" ({ cls := "SaleRounds$Reader", name := "readFirm", desc := "(LSaleRounds$Book;)Z" } : Jvm.MethodName) ({ cls := "SaleRounds$Reader", name := "readFirm", desc := "(LSaleRounds$Book;)Z" } : Jvm.MethodName)) ∈ wsG := twS 9 rfl rfl
theorem wd10 : (Jvm.Cond.selects "SaleRounds$Reader" ({ cls := "SaleRounds$Reader", name := "toldName", desc := "(LSaleRounds$Names;)I" } : Jvm.MethodName) ({ cls := "SaleRounds$Reader", name := "toldName", desc := "(LSaleRounds$Names;)I" } : Jvm.MethodName)) ∈ wsG := twS 10 rfl rfl
theorem wd11 : (Jvm.Cond.selects "SaleRounds$Reader" ({ cls := "SaleRounds$Reader", name := "readTie", desc := "(LSaleRounds$Book;I)Z" } : Jvm.MethodName) ({ cls := "SaleRounds$Reader", name := "readTie", desc := "(LSaleRounds$Book;I)Z" } : Jvm.MethodName)) ∈ wsG := twS 11 rfl rfl
theorem wd12 : (Jvm.Cond.selects "SaleRounds$Reader" ({ cls := "SaleRounds$Reader", name := "readSale", desc := "(LSaleRounds$Book;)Z" } : Jvm.MethodName) ({ cls := "SaleRounds$Reader", name := "readSale", desc := "(LSaleRounds$Book;)Z" } : Jvm.MethodName)) ∈ wsG := twS 12 rfl rfl
theorem wd13 : (Jvm.Cond.selects "SaleRounds$Reader" ({ cls := "SaleRounds$Reader", name := "readDay", desc := "(I)I" } : Jvm.MethodName) ({ cls := "SaleRounds$Reader", name := "readDay", desc := "(I)I" } : Jvm.MethodName)) ∈ wsG := twS 13 rfl rfl
theorem wd14 : (Jvm.Cond.selects "SaleRounds$Reader" ({ cls := "SaleRounds$Reader", name := "readMark", desc := "()I" } : Jvm.MethodName) ({ cls := "SaleRounds$Reader", name := "readMark", desc := "()I" } : Jvm.MethodName)) ∈ wsG := twS 14 rfl rfl
theorem wd15 : (Jvm.Cond.selects "SaleRounds$Reader" ({ cls := "SaleRounds$Reader", name := "readPaid", desc := "(LSaleRounds$Book;)Z" } : Jvm.MethodName) ({ cls := "SaleRounds$Reader", name := "readPaid", desc := "(LSaleRounds$Book;)Z" } : Jvm.MethodName)) ∈ wsG := twS 15 rfl rfl
theorem wd16 : (Jvm.Cond.selects "SaleRounds$Book" ({ cls := "SaleRounds$Book", name := "areJoined", desc := "(II)Z" } : Jvm.MethodName) ({ cls := "SaleRounds$Book", name := "areJoined", desc := "(II)Z" } : Jvm.MethodName)) ∈ wsG := twS 16 rfl rfl
theorem wd17 : (Jvm.Cond.selects "SaleRounds$Book" ({ cls := "SaleRounds$Book", name := "mergeParties", desc := "(II)V" } : Jvm.MethodName) ({ cls := "SaleRounds$Book", name := "mergeParties", desc := "(II)V" } : Jvm.MethodName)) ∈ wsG := twS 17 rfl rfl
theorem wd18 : (Jvm.Cond.selects "SaleRounds$Book" ({ cls := "SaleRounds$Book", name := "tally", desc := "(I)V" } : Jvm.MethodName) ({ cls := "SaleRounds$Book", name := "tally", desc := "(I)V" } : Jvm.MethodName)) ∈ wsG := twS 18 rfl rfl
theorem wd19 : (Jvm.Cond.selects "SaleRounds$Book" ({ cls := "SaleRounds$Book", name := "taxEach", desc := "(II)I" } : Jvm.MethodName) ({ cls := "SaleRounds$Book", name := "taxEach", desc := "(II)I" } : Jvm.MethodName)) ∈ wsG := twS 19 rfl rfl
theorem wd20 : (Jvm.Cond.selects "SaleRounds" ({ cls := "SaleRounds", name := "gather", desc := "(III)I" } : Jvm.MethodName) ({ cls := "SaleRounds", name := "gather", desc := "(III)I" } : Jvm.MethodName)) ∈ wsG := twS 20 rfl rfl
theorem wd21 : (Jvm.Cond.selects "SaleRounds$Finder" ({ cls := "SaleRounds$Finder", name := "linkSales", desc := "()V" } : Jvm.MethodName) ({ cls := "SaleRounds$Finder", name := "linkSales", desc := "()V" } : Jvm.MethodName)) ∈ wsG := twS 21 rfl rfl
theorem wd22 : (Jvm.Cond.selects "SaleRounds$Finder" ({ cls := "SaleRounds$Finder", name := "measure", desc := "(I)V" } : Jvm.MethodName) ({ cls := "SaleRounds$Finder", name := "measure", desc := "(I)V" } : Jvm.MethodName)) ∈ wsG := twS 22 rfl rfl
theorem wd23 : (Jvm.Cond.selects "SaleRounds$Finder" ({ cls := "SaleRounds$Finder", name := "extend", desc := "(JIII)V" } : Jvm.MethodName) ({ cls := "SaleRounds$Finder", name := "extend", desc := "(JIII)V" } : Jvm.MethodName)) ∈ wsG := twS 23 rfl rfl
theorem wd24 : (Jvm.Cond.selects "SaleRounds$Finder" ({ cls := "SaleRounds$Finder", name := "keep", desc := "(JI)V" } : Jvm.MethodName) ({ cls := "SaleRounds$Finder", name := "keep", desc := "(JI)V" } : Jvm.MethodName)) ∈ wsG := twS 24 rfl rfl
theorem wd25 : (Jvm.Cond.selects "SaleRounds$Sales" ({ cls := "SaleRounds$Sales", name := "alike", desc := "(III)Z" } : Jvm.MethodName) ({ cls := "SaleRounds$Sales", name := "alike", desc := "(III)Z" } : Jvm.MethodName)) ∈ wsG := twS 25 rfl rfl
theorem wd26 : (Jvm.Cond.selects "SaleRounds$Streams" ({ cls := "SaleRounds$Streams", name := "load", desc := "(LSaleRounds$Sales;II)V" } : Jvm.MethodName) ({ cls := "SaleRounds$Streams", name := "load", desc := "(LSaleRounds$Sales;II)V" } : Jvm.MethodName)) ∈ wsG := twS 26 rfl rfl
theorem wd27 : (Jvm.Cond.selects "SaleRounds$Streams" ({ cls := "SaleRounds$Streams", name := "seekHome", desc := "()I" } : Jvm.MethodName) ({ cls := "SaleRounds$Streams", name := "seekHome", desc := "()I" } : Jvm.MethodName)) ∈ wsG := twS 27 rfl rfl
theorem wd28 : (Jvm.Cond.selects "SaleRounds$Streams" ({ cls := "SaleRounds$Streams", name := "visit", desc := "(II)V" } : Jvm.MethodName) ({ cls := "SaleRounds$Streams", name := "visit", desc := "(II)V" } : Jvm.MethodName)) ∈ wsG := twS 28 rfl rfl
theorem wd29 : (Jvm.Cond.selects "SaleRounds$Streams" ({ cls := "SaleRounds$Streams", name := "spreadIn", desc := "(I)V" } : Jvm.MethodName) ({ cls := "SaleRounds$Streams", name := "spreadIn", desc := "(I)V" } : Jvm.MethodName)) ∈ wsG := twS 29 rfl rfl
theorem wd30 : (Jvm.Cond.selects "SaleRounds$Streams" ({ cls := "SaleRounds$Streams", name := "spreadOut", desc := "(I)V" } : Jvm.MethodName) ({ cls := "SaleRounds$Streams", name := "spreadOut", desc := "(I)V" } : Jvm.MethodName)) ∈ wsG := twS 30 rfl rfl
theorem wd31 : (Jvm.Cond.selects "SaleRounds$Streams" ({ cls := "SaleRounds$Streams", name := "narrowest", desc := "(I)I" } : Jvm.MethodName) ({ cls := "SaleRounds$Streams", name := "narrowest", desc := "(I)I" } : Jvm.MethodName)) ∈ wsG := twS 31 rfl rfl
theorem wd32 : (Jvm.Cond.selects "SaleRounds$Streams" ({ cls := "SaleRounds$Streams", name := "space", desc := "(II)I" } : Jvm.MethodName) ({ cls := "SaleRounds$Streams", name := "space", desc := "(II)I" } : Jvm.MethodName)) ∈ wsG := twS 32 rfl rfl
theorem wd33 : (Jvm.Cond.selects "SaleRounds$Streams" ({ cls := "SaleRounds$Streams", name := "send", desc := "(II)V" } : Jvm.MethodName) ({ cls := "SaleRounds$Streams", name := "send", desc := "(II)V" } : Jvm.MethodName)) ∈ wsG := twS 33 rfl rfl
theorem wd34 : (Jvm.Cond.selects "SaleRounds$Streams" ({ cls := "SaleRounds$Streams", name := "addBetween", desc := "(III)V" } : Jvm.MethodName) ({ cls := "SaleRounds$Streams", name := "addBetween", desc := "(III)V" } : Jvm.MethodName)) ∈ wsG := twS 34 rfl rfl
theorem wd35 : (Jvm.Cond.selects "SaleRounds" ({ cls := "SaleRounds", name := "signBits", desc := "(III)I" } : Jvm.MethodName) ({ cls := "SaleRounds", name := "signBits", desc := "(III)I" } : Jvm.MethodName)) ∈ wsG := twS 35 rfl rfl
theorem wd36 : (Jvm.Cond.selects "SaleRounds$Sales" ({ cls := "SaleRounds$Sales", name := "boughtDearer", desc := "(II)Z" } : Jvm.MethodName) ({ cls := "SaleRounds$Sales", name := "boughtDearer", desc := "(II)Z" } : Jvm.MethodName)) ∈ wsG := twS 36 rfl rfl
theorem wd37 : (Jvm.Cond.selects "SaleRounds" ({ cls := "SaleRounds", name := "roundsWith", desc := "(II)I" } : Jvm.MethodName) ({ cls := "SaleRounds", name := "roundsWith", desc := "(II)I" } : Jvm.MethodName)) ∈ wsG := twS 37 rfl rfl
theorem wd38 : (Jvm.Cond.selects "SaleRounds$Sales" ({ cls := "SaleRounds$Sales", name := "nextOf", desc := "(II)I" } : Jvm.MethodName) ({ cls := "SaleRounds$Sales", name := "nextOf", desc := "(II)I" } : Jvm.MethodName)) ∈ wsG := twS 38 rfl rfl
theorem wd39 : (Jvm.Cond.selects "SaleRounds$Sales" ({ cls := "SaleRounds$Sales", name := "isBefore", desc := "(II)Z" } : Jvm.MethodName) ({ cls := "SaleRounds$Sales", name := "isBefore", desc := "(II)Z" } : Jvm.MethodName)) ∈ wsG := twS 39 rfl rfl
theorem wd40 : (Jvm.Cond.selects "SaleRounds" ({ cls := "SaleRounds", name := "keepWorthy", desc := "(I)I" } : Jvm.MethodName) ({ cls := "SaleRounds", name := "keepWorthy", desc := "(I)I" } : Jvm.MethodName)) ∈ wsG := twS 40 rfl rfl
theorem wd41 : (Jvm.Cond.selects "SaleRounds" ({ cls := "SaleRounds", name := "leftIsAtMost", desc := "(IIJ)Z" } : Jvm.MethodName) ({ cls := "SaleRounds", name := "leftIsAtMost", desc := "(IIJ)Z" } : Jvm.MethodName)) ∈ wsG := twS 41 rfl rfl
theorem wd42 : (Jvm.Cond.selects "SaleRounds" ({ cls := "SaleRounds", name := "weighLands", desc := "(I)V" } : Jvm.MethodName) ({ cls := "SaleRounds", name := "weighLands", desc := "(I)V" } : Jvm.MethodName)) ∈ wsG := twS 42 rfl rfl
theorem wd43 : (Jvm.Cond.selects "SaleRounds" ({ cls := "SaleRounds", name := "bestLands", desc := "(I)I" } : Jvm.MethodName) ({ cls := "SaleRounds", name := "bestLands", desc := "(I)I" } : Jvm.MethodName)) ∈ wsG := twS 43 rfl rfl
theorem wd44 : (Jvm.Cond.selects "SaleRounds" ({ cls := "SaleRounds", name := "takesOutside", desc := "(I)J" } : Jvm.MethodName) ({ cls := "SaleRounds", name := "takesOutside", desc := "(I)J" } : Jvm.MethodName)) ∈ wsG := twS 44 rfl rfl
theorem wd45 : (Jvm.Cond.selects "SaleRounds" ({ cls := "SaleRounds", name := "burdenInside", desc := "(I)I" } : Jvm.MethodName) ({ cls := "SaleRounds", name := "burdenInside", desc := "(I)I" } : Jvm.MethodName)) ∈ wsG := twS 45 rfl rfl
theorem wd47 : (Jvm.Cond.selects "SaleRoundsModel" ({ cls := "SaleRoundsModel", name := "next", desc := "()V" } : Jvm.MethodName) ({ cls := "SaleRoundsModel", name := "next", desc := "()V" } : Jvm.MethodName)) ∈ wsG := twS 47 rfl rfl
theorem wd48 : (Jvm.Cond.selects "SaleRoundsModel" ({ cls := "SaleRoundsModel", name := "here", desc := "()I" } : Jvm.MethodName) ({ cls := "SaleRoundsModel", name := "here", desc := "()I" } : Jvm.MethodName)) ∈ wsG := twS 48 rfl rfl
theorem wd49 : (Jvm.Cond.selects "SaleRoundsModel" ({ cls := "SaleRoundsModel", name := "word", desc := "()I" } : Jvm.MethodName) ({ cls := "SaleRoundsModel", name := "word", desc := "()I" } : Jvm.MethodName)) ∈ wsG := twS 49 rfl rfl
theorem wd50 : (Jvm.Cond.selects "SaleRoundsModel" ({ cls := "SaleRoundsModel", name := "name", desc := "()V" } : Jvm.MethodName) ({ cls := "SaleRoundsModel", name := "name", desc := "()V" } : Jvm.MethodName)) ∈ wsG := twS 50 rfl rfl
theorem wd51 : (Jvm.Cond.selects "SaleRoundsModel" ({ cls := "SaleRoundsModel", name := "line", desc := "()V" } : Jvm.MethodName) ({ cls := "SaleRoundsModel", name := "line", desc := "()V" } : Jvm.MethodName)) ∈ wsG := twS 51 rfl rfl
theorem wd52 : (Jvm.Cond.selects "SaleRoundsModel" ({ cls := "SaleRoundsModel", name := "wrong", desc := "(I)V" } : Jvm.MethodName) ({ cls := "SaleRoundsModel", name := "wrong", desc := "(I)V" } : Jvm.MethodName)) ∈ wsG := twS 52 rfl rfl
theorem wd53 : (Jvm.Cond.selects "SaleRoundsModel" ({ cls := "SaleRoundsModel", name := "fresh", desc := "([III)I" } : Jvm.MethodName) ({ cls := "SaleRoundsModel", name := "fresh", desc := "([III)I" } : Jvm.MethodName)) ∈ wsG := twS 53 rfl rfl
theorem wd54 : (Jvm.Cond.selects "SaleRoundsModel" ({ cls := "SaleRoundsModel", name := "numeral", desc := "(II)I" } : Jvm.MethodName) ({ cls := "SaleRoundsModel", name := "numeral", desc := "(II)I" } : Jvm.MethodName)) ∈ wsG := twS 54 rfl rfl
theorem wd55 : (Jvm.Cond.selects "SaleRoundsModel" ({ cls := "SaleRoundsModel", name := "firmLine", desc := "(I)V" } : Jvm.MethodName) ({ cls := "SaleRoundsModel", name := "firmLine", desc := "(I)V" } : Jvm.MethodName)) ∈ wsG := twS 55 rfl rfl
theorem wd56 : (Jvm.Cond.selects "SaleRoundsModel" ({ cls := "SaleRoundsModel", name := "told", desc := "([III)I" } : Jvm.MethodName) ({ cls := "SaleRoundsModel", name := "told", desc := "([III)I" } : Jvm.MethodName)) ∈ wsG := twS 56 rfl rfl
theorem wd57 : (Jvm.Cond.selects "SaleRoundsModel" ({ cls := "SaleRoundsModel", name := "goOn", desc := "()V" } : Jvm.MethodName) ({ cls := "SaleRoundsModel", name := "goOn", desc := "()V" } : Jvm.MethodName)) ∈ wsG := twS 57 rfl rfl
theorem wd58 : (Jvm.Cond.selects "SaleRoundsModel" ({ cls := "SaleRoundsModel", name := "isWord", desc := "(I)Z" } : Jvm.MethodName) ({ cls := "SaleRoundsModel", name := "isWord", desc := "(I)Z" } : Jvm.MethodName)) ∈ wsG := twS 58 rfl rfl
theorem wd59 : (Jvm.Cond.selects "SaleRoundsModel" ({ cls := "SaleRoundsModel", name := "sale", desc := "(I)V" } : Jvm.MethodName) ({ cls := "SaleRoundsModel", name := "sale", desc := "(I)V" } : Jvm.MethodName)) ∈ wsG := twS 59 rfl rfl
theorem wd60 : (Jvm.Cond.selects "SaleRoundsModel" ({ cls := "SaleRoundsModel", name := "paid", desc := "()V" } : Jvm.MethodName) ({ cls := "SaleRoundsModel", name := "paid", desc := "()V" } : Jvm.MethodName)) ∈ wsG := twS 60 rfl rfl
theorem wd61 : (Jvm.Cond.selects "SaleRoundsModel" ({ cls := "SaleRoundsModel", name := "lays", desc := "()V" } : Jvm.MethodName) ({ cls := "SaleRoundsModel", name := "lays", desc := "()V" } : Jvm.MethodName)) ∈ wsG := twS 61 rfl rfl
theorem wd62 : (Jvm.Cond.selects "SaleRoundsModel" ({ cls := "SaleRoundsModel", name := "isSale", desc := "(I)Z" } : Jvm.MethodName) ({ cls := "SaleRoundsModel", name := "isSale", desc := "(I)Z" } : Jvm.MethodName)) ∈ wsG := twS 62 rfl rfl
theorem wd63 : (Jvm.Cond.selects "SaleRoundsModel" ({ cls := "SaleRoundsModel", name := "taxOf", desc := "(II)I" } : Jvm.MethodName) ({ cls := "SaleRoundsModel", name := "taxOf", desc := "(II)I" } : Jvm.MethodName)) ∈ wsG := twS 63 rfl rfl
theorem wd64 : (Jvm.Cond.selects "SaleRoundsModel" ({ cls := "SaleRoundsModel", name := "rate", desc := "(II)I" } : Jvm.MethodName) ({ cls := "SaleRoundsModel", name := "rate", desc := "(II)I" } : Jvm.MethodName)) ∈ wsG := twS 64 rfl rfl
theorem wd65 : (Jvm.Cond.selects "SaleRoundsModel" ({ cls := "SaleRoundsModel", name := "isFirm", desc := "(I)Z" } : Jvm.MethodName) ({ cls := "SaleRoundsModel", name := "isFirm", desc := "(I)Z" } : Jvm.MethodName)) ∈ wsG := twS 65 rfl rfl
theorem wd66 : (Jvm.Cond.selects "SaleRoundsModel" ({ cls := "SaleRoundsModel", name := "parties", desc := "()V" } : Jvm.MethodName) ({ cls := "SaleRoundsModel", name := "parties", desc := "()V" } : Jvm.MethodName)) ∈ wsG := twS 66 rfl rfl
theorem wd67 : (Jvm.Cond.selects "SaleRoundsModel" ({ cls := "SaleRoundsModel", name := "owes", desc := "(II)I" } : Jvm.MethodName) ({ cls := "SaleRoundsModel", name := "owes", desc := "(II)I" } : Jvm.MethodName)) ∈ wsG := twS 67 rfl rfl
theorem wd68 : (Jvm.Cond.selects "SaleRoundsModel" ({ cls := "SaleRoundsModel", name := "isMissing", desc := "(II)Z" } : Jvm.MethodName) ({ cls := "SaleRoundsModel", name := "isMissing", desc := "(II)Z" } : Jvm.MethodName)) ∈ wsG := twS 68 rfl rfl
theorem wd69 : (Jvm.Cond.selects "SaleRoundsModel" ({ cls := "SaleRoundsModel", name := "seeksNow", desc := "(III)V" } : Jvm.MethodName) ({ cls := "SaleRoundsModel", name := "seeksNow", desc := "(III)V" } : Jvm.MethodName)) ∈ wsG := twS 69 rfl rfl
theorem wd70 : (Jvm.Cond.selects "SaleRoundsModel" ({ cls := "SaleRoundsModel", name := "seeks", desc := "(III)V" } : Jvm.MethodName) ({ cls := "SaleRoundsModel", name := "seeks", desc := "(III)V" } : Jvm.MethodName)) ∈ wsG := twS 70 rfl rfl
theorem wd71 : (Jvm.Cond.selects "SaleRoundsModel" ({ cls := "SaleRoundsModel", name := "isStopped", desc := "(I)Z" } : Jvm.MethodName) ({ cls := "SaleRoundsModel", name := "isStopped", desc := "(I)Z" } : Jvm.MethodName)) ∈ wsG := twS 71 rfl rfl
theorem wd72 : (Jvm.Cond.selects "SaleRoundsModel" ({ cls := "SaleRoundsModel", name := "grows", desc := "(I)V" } : Jvm.MethodName) ({ cls := "SaleRoundsModel", name := "grows", desc := "(I)V" } : Jvm.MethodName)) ∈ wsG := twS 72 rfl rfl
theorem wd73 : (Jvm.Cond.selects "SaleRoundsModel" ({ cls := "SaleRoundsModel", name := "fits", desc := "(II)Z" } : Jvm.MethodName) ({ cls := "SaleRoundsModel", name := "fits", desc := "(II)Z" } : Jvm.MethodName)) ∈ wsG := twS 73 rfl rfl
theorem wd74 : (Jvm.Cond.selects "SaleRoundsModel" ({ cls := "SaleRoundsModel", name := "carries", desc := "(I)I" } : Jvm.MethodName) ({ cls := "SaleRoundsModel", name := "carries", desc := "(I)I" } : Jvm.MethodName)) ∈ wsG := twS 74 rfl rfl
theorem wd75 : (Jvm.Cond.selects "SaleRoundsModel" ({ cls := "SaleRoundsModel", name := "takesOf", desc := "(III)I" } : Jvm.MethodName) ({ cls := "SaleRoundsModel", name := "takesOf", desc := "(III)I" } : Jvm.MethodName)) ∈ wsG := twS 75 rfl rfl
theorem wd76 : (Jvm.Cond.selects "SaleRoundsModel" ({ cls := "SaleRoundsModel", name := "firmsOf", desc := "(I)I" } : Jvm.MethodName) ({ cls := "SaleRoundsModel", name := "firmsOf", desc := "(I)I" } : Jvm.MethodName)) ∈ wsG := twS 76 rfl rfl
theorem wd77 : (Jvm.Cond.selects "SaleRoundsModel" ({ cls := "SaleRoundsModel", name := "allTakes", desc := "(III)J" } : Jvm.MethodName) ({ cls := "SaleRoundsModel", name := "allTakes", desc := "(III)J" } : Jvm.MethodName)) ∈ wsG := twS 77 rfl rfl
theorem wd78 : (Jvm.Cond.selects "SaleRoundsModel" ({ cls := "SaleRoundsModel", name := "flowBy", desc := "(II)I" } : Jvm.MethodName) ({ cls := "SaleRoundsModel", name := "flowBy", desc := "(II)I" } : Jvm.MethodName)) ∈ wsG := twS 78 rfl rfl
theorem wd79 : (Jvm.Cond.selects "SaleRoundsModel" ({ cls := "SaleRoundsModel", name := "counts", desc := "(II)Z" } : Jvm.MethodName) ({ cls := "SaleRoundsModel", name := "counts", desc := "(II)Z" } : Jvm.MethodName)) ∈ wsG := twS 79 rfl rfl
theorem wd80 : (Jvm.Cond.selects "SaleRoundsModel" ({ cls := "SaleRoundsModel", name := "mayHand", desc := "(III)Z" } : Jvm.MethodName) ({ cls := "SaleRoundsModel", name := "mayHand", desc := "(III)Z" } : Jvm.MethodName)) ∈ wsG := twS 80 rfl rfl
theorem wd81 : (Jvm.Cond.selects "SaleRoundsModel" ({ cls := "SaleRoundsModel", name := "reaches", desc := "()Z" } : Jvm.MethodName) ({ cls := "SaleRoundsModel", name := "reaches", desc := "()Z" } : Jvm.MethodName)) ∈ wsG := twS 81 rfl rfl
theorem wd82 : (Jvm.Cond.selects "SaleRoundsModel" ({ cls := "SaleRoundsModel", name := "signsOf", desc := "(I)I" } : Jvm.MethodName) ({ cls := "SaleRoundsModel", name := "signsOf", desc := "(I)I" } : Jvm.MethodName)) ∈ wsG := twS 82 rfl rfl
theorem wd83 : (Jvm.Cond.selects "SaleRoundsModel" ({ cls := "SaleRoundsModel", name := "soldUnder", desc := "(I)Z" } : Jvm.MethodName) ({ cls := "SaleRoundsModel", name := "soldUnder", desc := "(I)Z" } : Jvm.MethodName)) ∈ wsG := twS 83 rfl rfl
theorem wd84 : (Jvm.Cond.selects "SaleRoundsModel" ({ cls := "SaleRoundsModel", name := "boughtOfSuch", desc := "(I)Z" } : Jvm.MethodName) ({ cls := "SaleRoundsModel", name := "boughtOfSuch", desc := "(I)Z" } : Jvm.MethodName)) ∈ wsG := twS 84 rfl rfl
theorem wd85 : (Jvm.Cond.selects "SaleRoundsModel" ({ cls := "SaleRoundsModel", name := "boughtFromMissing", desc := "(I)Z" } : Jvm.MethodName) ({ cls := "SaleRoundsModel", name := "boughtFromMissing", desc := "(I)Z" } : Jvm.MethodName)) ∈ wsG := twS 85 rfl rfl
theorem wd86 : (Jvm.Cond.selects "SaleRoundsModel" ({ cls := "SaleRoundsModel", name := "roundsWith", desc := "(I)I" } : Jvm.MethodName) ({ cls := "SaleRoundsModel", name := "roundsWith", desc := "(I)I" } : Jvm.MethodName)) ∈ wsG := twS 86 rfl rfl
theorem wd87 : (Jvm.Cond.selects "SaleRoundsModel" ({ cls := "SaleRoundsModel", name := "hasMissing", desc := "(I)Z" } : Jvm.MethodName) ({ cls := "SaleRoundsModel", name := "hasMissing", desc := "(I)Z" } : Jvm.MethodName)) ∈ wsG := twS 87 rfl rfl
theorem wd88 : (Jvm.Cond.selects "SaleRoundsModel" ({ cls := "SaleRoundsModel", name := "burdenOf", desc := "(I)I" } : Jvm.MethodName) ({ cls := "SaleRoundsModel", name := "burdenOf", desc := "(I)I" } : Jvm.MethodName)) ∈ wsG := twS 88 rfl rfl
theorem wd90 : (Jvm.Cond.initialized "SaleRounds") ∈ wsG := tw1 1 rfl rfl
theorem wd91 : (Jvm.Cond.initialized "SaleRounds$Reader") ∈ wsG := tw1 2 rfl rfl
theorem wd92 : (Jvm.Cond.initialized "SaleRounds$Finder") ∈ wsG := tw1 3 rfl rfl
theorem wd93 : (Jvm.Cond.initialized "SaleRounds$Streams") ∈ wsG := tw1 4 rfl rfl
theorem wd94 : (Jvm.Cond.initialized "SaleRounds$Book") ∈ wsG := tw1 5 rfl rfl
theorem wd95 : (Jvm.Cond.initialized "SaleRounds$Names") ∈ wsG := tw1 6 rfl rfl
theorem wd96 : (Jvm.Cond.initialized "SaleRounds$Sales") ∈ wsG := tw1 7 rfl rfl
theorem wd97 : (Jvm.Cond.initialized "SaleRoundsModel") ∈ wsG := tw1 8 rfl rfl
theorem wd98 : (Jvm.Cond.initialized "java/lang/Math") ∈ wsG := tw1 9 rfl rfl
theorem wd108 : (Jvm.Cond.initialized "java/lang/Integer") ∈ wsG := tw1 19 rfl rfl
theorem wd123 : (Jvm.Cond.fieldLink "SaleRounds$Reader" (9 : Nat) "SaleRounds$Reader" "bytes" "[B") ∈ wsG := tw1 34 rfl rfl
theorem wd124 : (Jvm.Cond.fieldLink "SaleRounds$Reader" (15 : Nat) "SaleRounds$Reader" "size" "I") ∈ wsG := tw1 35 rfl rfl
theorem wd125 : (Jvm.Cond.fieldLink "SaleRounds" (71 : Nat) "SaleRounds$Reader" "size" "I") ∈ wsG := tw1 36 rfl rfl
theorem wd126 : (Jvm.Cond.fieldLink "SaleRounds$Reader" (19 : Nat) "SaleRounds$Reader" "fault" "I") ∈ wsG := tw1 37 rfl rfl
theorem wd127 : (Jvm.Cond.fieldLink "SaleRounds" (87 : Nat) "SaleRounds$Reader" "fault" "I") ∈ wsG := tw1 38 rfl rfl
theorem wd128 : (Jvm.Cond.fieldLink "SaleRounds$Reader" (22 : Nat) "SaleRounds$Reader" "faultPlace" "I") ∈ wsG := tw1 39 rfl rfl
theorem wd129 : (Jvm.Cond.fieldLink "SaleRounds" (90 : Nat) "SaleRounds$Reader" "faultPlace" "I") ∈ wsG := tw1 40 rfl rfl
theorem wd130 : (Jvm.Cond.fieldLink "SaleRounds$Reader" (25 : Nat) "SaleRounds$Reader" "end" "I") ∈ wsG := tw1 41 rfl rfl
theorem wd131 : (Jvm.Cond.fieldLink "SaleRounds$Reader" (28 : Nat) "SaleRounds$Reader" "place" "I") ∈ wsG := tw1 42 rfl rfl
theorem wd132 : (Jvm.Cond.fieldLink "SaleRounds$Reader" (31 : Nat) "SaleRounds$Reader" "kind" "I") ∈ wsG := tw1 43 rfl rfl
theorem wd133 : (Jvm.Cond.fieldLink "SaleRounds$Reader" (34 : Nat) "SaleRounds$Reader" "start" "I") ∈ wsG := tw1 44 rfl rfl
theorem wd134 : (Jvm.Cond.fieldLink "SaleRounds$Reader" (37 : Nat) "SaleRounds$Reader" "value" "I") ∈ wsG := tw1 45 rfl rfl
theorem wd161 : (Jvm.Cond.fieldLink "SaleRounds$Finder" (9 : Nat) "SaleRounds$Finder" "rows" "[J") ∈ wsG := tw1 72 rfl rfl
theorem wd162 : (Jvm.Cond.fieldLink "SaleRounds" (201 : Nat) "SaleRounds$Finder" "rows" "[J") ∈ wsG := tw1 73 rfl rfl
theorem wd163 : (Jvm.Cond.fieldLink "SaleRounds$Finder" (15 : Nat) "SaleRounds$Finder" "lengths" "[I") ∈ wsG := tw1 74 rfl rfl
theorem wd164 : (Jvm.Cond.fieldLink "SaleRounds" (204 : Nat) "SaleRounds$Finder" "lengths" "[I") ∈ wsG := tw1 75 rfl rfl
theorem wd165 : (Jvm.Cond.fieldLink "SaleRounds$Finder" (19 : Nat) "SaleRounds$Finder" "from" "[I") ∈ wsG := tw1 76 rfl rfl
theorem wd166 : (Jvm.Cond.fieldLink "SaleRounds$Finder" (22 : Nat) "SaleRounds$Finder" "to" "[I") ∈ wsG := tw1 77 rfl rfl
theorem wd167 : (Jvm.Cond.fieldLink "SaleRounds$Finder" (25 : Nat) "SaleRounds$Finder" "day" "[I") ∈ wsG := tw1 78 rfl rfl
theorem wd168 : (Jvm.Cond.fieldLink "SaleRounds$Finder" (28 : Nat) "SaleRounds$Finder" "kind" "[I") ∈ wsG := tw1 79 rfl rfl
theorem wd169 : (Jvm.Cond.fieldLink "SaleRounds$Finder" (31 : Nat) "SaleRounds$Finder" "follow" "[J") ∈ wsG := tw1 80 rfl rfl
theorem wd170 : (Jvm.Cond.fieldLink "SaleRounds$Finder" (34 : Nat) "SaleRounds$Finder" "near" "[J") ∈ wsG := tw1 81 rfl rfl
theorem wd171 : (Jvm.Cond.fieldLink "SaleRounds$Finder" (37 : Nat) "SaleRounds$Finder" "size" "I") ∈ wsG := tw1 82 rfl rfl
theorem wd172 : (Jvm.Cond.fieldLink "SaleRounds$Finder" (41 : Nat) "SaleRounds$Finder" "found" "I") ∈ wsG := tw1 83 rfl rfl
theorem wd173 : (Jvm.Cond.fieldLink "SaleRounds$Finder" (44 : Nat) "SaleRounds$Finder" "longest" "I") ∈ wsG := tw1 84 rfl rfl
theorem wd174 : (Jvm.Cond.fieldLink "SaleRounds$Finder" (47 : Nat) "SaleRounds$Finder" "home" "I") ∈ wsG := tw1 85 rfl rfl
theorem wd175 : (Jvm.Cond.fieldLink "SaleRounds$Finder" (50 : Nat) "SaleRounds$Finder" "latest" "I") ∈ wsG := tw1 86 rfl rfl
theorem wd176 : (Jvm.Cond.fieldLink "SaleRounds$Finder" (53 : Nat) "SaleRounds$Finder" "fresh" "Z") ∈ wsG := tw1 87 rfl rfl
theorem wd177 : (Jvm.Cond.fieldLink "SaleRounds$Finder" (57 : Nat) "SaleRounds$Finder" "knownWay" "I") ∈ wsG := tw1 88 rfl rfl
theorem wd178 : (Jvm.Cond.fieldLink "SaleRounds$Finder" (60 : Nat) "SaleRounds$Finder" "knownDays" "I") ∈ wsG := tw1 89 rfl rfl
theorem wd179 : (Jvm.Cond.fieldLink "SaleRounds$Finder" (63 : Nat) "SaleRounds$Finder" "knownStopped" "I") ∈ wsG := tw1 90 rfl rfl
theorem wd223 : (Jvm.Cond.fieldLink "SaleRounds$Streams" (9 : Nat) "SaleRounds$Streams" "from" "[I") ∈ wsG := tw1 134 rfl rfl
theorem wd224 : (Jvm.Cond.fieldLink "SaleRounds$Streams" (15 : Nat) "SaleRounds$Streams" "to" "[I") ∈ wsG := tw1 135 rfl rfl
theorem wd225 : (Jvm.Cond.fieldLink "SaleRounds$Streams" (18 : Nat) "SaleRounds$Streams" "day" "[I") ∈ wsG := tw1 136 rfl rfl
theorem wd226 : (Jvm.Cond.fieldLink "SaleRounds$Streams" (21 : Nat) "SaleRounds$Streams" "number" "[I") ∈ wsG := tw1 137 rfl rfl
theorem wd227 : (Jvm.Cond.fieldLink "SaleRounds$Streams" (24 : Nat) "SaleRounds$Streams" "carried" "[I") ∈ wsG := tw1 138 rfl rfl
theorem wd228 : (Jvm.Cond.fieldLink "SaleRounds$Streams" (27 : Nat) "SaleRounds$Streams" "handed" "[I") ∈ wsG := tw1 139 rfl rfl
theorem wd229 : (Jvm.Cond.fieldLink "SaleRounds$Streams" (30 : Nat) "SaleRounds$Streams" "cameFrom" "[I") ∈ wsG := tw1 140 rfl rfl
theorem wd230 : (Jvm.Cond.fieldLink "SaleRounds$Streams" (33 : Nat) "SaleRounds$Streams" "queue" "[I") ∈ wsG := tw1 141 rfl rfl
theorem wd231 : (Jvm.Cond.fieldLink "SaleRounds$Streams" (36 : Nat) "SaleRounds$Streams" "size" "I") ∈ wsG := tw1 142 rfl rfl
theorem wd232 : (Jvm.Cond.fieldLink "SaleRounds$Streams" (40 : Nat) "SaleRounds$Streams" "queued" "I") ∈ wsG := tw1 143 rfl rfl
theorem wd233 : (Jvm.Cond.fieldLink "SaleRounds$Streams" (43 : Nat) "SaleRounds$Streams" "home" "I") ∈ wsG := tw1 144 rfl rfl
theorem wd269 : (Jvm.Cond.fieldLink "SaleRounds$Names" (9 : Nat) "SaleRounds$Names" "letters" "[I") ∈ wsG := tw1 180 rfl rfl
theorem wd270 : (Jvm.Cond.fieldLink "SaleRounds$Names" (15 : Nat) "SaleRounds$Names" "size" "I") ∈ wsG := tw1 181 rfl rfl
theorem wd271 : (Jvm.Cond.fieldLink "SaleRounds$Book" (60 : Nat) "SaleRounds$Names" "size" "I") ∈ wsG := tw1 182 rfl rfl
theorem wd272 : (Jvm.Cond.fieldLink "SaleRounds$Reader" (158 : Nat) "SaleRounds$Names" "size" "I") ∈ wsG := tw1 183 rfl rfl
theorem wd273 : (Jvm.Cond.fieldLink "SaleRounds" (243 : Nat) "SaleRounds$Names" "size" "I") ∈ wsG := tw1 184 rfl rfl
theorem wd285 : (Jvm.Cond.fieldLink "SaleRounds$Sales" (9 : Nat) "SaleRounds$Sales" "from" "[I") ∈ wsG := tw1 196 rfl rfl
theorem wd286 : (Jvm.Cond.fieldLink "SaleRounds$Streams" (66 : Nat) "SaleRounds$Sales" "from" "[I") ∈ wsG := tw1 197 rfl rfl
theorem wd287 : (Jvm.Cond.fieldLink "SaleRounds$Finder" (77 : Nat) "SaleRounds$Sales" "from" "[I") ∈ wsG := tw1 198 rfl rfl
theorem wd288 : (Jvm.Cond.fieldLink "SaleRounds" (125 : Nat) "SaleRounds$Sales" "from" "[I") ∈ wsG := tw1 199 rfl rfl
theorem wd289 : (Jvm.Cond.fieldLink "SaleRounds$Book" (89 : Nat) "SaleRounds$Sales" "from" "[I") ∈ wsG := tw1 200 rfl rfl
theorem wd290 : (Jvm.Cond.fieldLink "SaleRounds$Sales" (15 : Nat) "SaleRounds$Sales" "to" "[I") ∈ wsG := tw1 201 rfl rfl
theorem wd291 : (Jvm.Cond.fieldLink "SaleRounds$Streams" (67 : Nat) "SaleRounds$Sales" "to" "[I") ∈ wsG := tw1 202 rfl rfl
theorem wd292 : (Jvm.Cond.fieldLink "SaleRounds$Finder" (78 : Nat) "SaleRounds$Sales" "to" "[I") ∈ wsG := tw1 203 rfl rfl
theorem wd293 : (Jvm.Cond.fieldLink "SaleRounds" (128 : Nat) "SaleRounds$Sales" "to" "[I") ∈ wsG := tw1 204 rfl rfl
theorem wd294 : (Jvm.Cond.fieldLink "SaleRounds$Book" (92 : Nat) "SaleRounds$Sales" "to" "[I") ∈ wsG := tw1 205 rfl rfl
theorem wd295 : (Jvm.Cond.fieldLink "SaleRounds$Sales" (18 : Nat) "SaleRounds$Sales" "number" "[I") ∈ wsG := tw1 206 rfl rfl
theorem wd296 : (Jvm.Cond.fieldLink "SaleRounds$Streams" (72 : Nat) "SaleRounds$Sales" "number" "[I") ∈ wsG := tw1 207 rfl rfl
theorem wd297 : (Jvm.Cond.fieldLink "SaleRounds" (131 : Nat) "SaleRounds$Sales" "number" "[I") ∈ wsG := tw1 208 rfl rfl
theorem wd298 : (Jvm.Cond.fieldLink "SaleRounds$Book" (98 : Nat) "SaleRounds$Sales" "number" "[I") ∈ wsG := tw1 209 rfl rfl
theorem wd299 : (Jvm.Cond.fieldLink "SaleRounds$Sales" (21 : Nat) "SaleRounds$Sales" "good" "[I") ∈ wsG := tw1 210 rfl rfl
theorem wd300 : (Jvm.Cond.fieldLink "SaleRounds$Streams" (68 : Nat) "SaleRounds$Sales" "good" "[I") ∈ wsG := tw1 211 rfl rfl
theorem wd301 : (Jvm.Cond.fieldLink "SaleRounds$Finder" (80 : Nat) "SaleRounds$Sales" "good" "[I") ∈ wsG := tw1 212 rfl rfl
theorem wd302 : (Jvm.Cond.fieldLink "SaleRounds" (134 : Nat) "SaleRounds$Sales" "good" "[I") ∈ wsG := tw1 213 rfl rfl
theorem wd303 : (Jvm.Cond.fieldLink "SaleRounds$Sales" (24 : Nat) "SaleRounds$Sales" "price" "[I") ∈ wsG := tw1 214 rfl rfl
theorem wd304 : (Jvm.Cond.fieldLink "SaleRounds" (137 : Nat) "SaleRounds$Sales" "price" "[I") ∈ wsG := tw1 215 rfl rfl
theorem wd305 : (Jvm.Cond.fieldLink "SaleRounds$Book" (95 : Nat) "SaleRounds$Sales" "price" "[I") ∈ wsG := tw1 216 rfl rfl
theorem wd306 : (Jvm.Cond.fieldLink "SaleRounds$Sales" (27 : Nat) "SaleRounds$Sales" "day" "[I") ∈ wsG := tw1 217 rfl rfl
theorem wd307 : (Jvm.Cond.fieldLink "SaleRounds$Streams" (71 : Nat) "SaleRounds$Sales" "day" "[I") ∈ wsG := tw1 218 rfl rfl
theorem wd308 : (Jvm.Cond.fieldLink "SaleRounds$Finder" (79 : Nat) "SaleRounds$Sales" "day" "[I") ∈ wsG := tw1 219 rfl rfl
theorem wd309 : (Jvm.Cond.fieldLink "SaleRounds" (140 : Nat) "SaleRounds$Sales" "day" "[I") ∈ wsG := tw1 220 rfl rfl
theorem wd310 : (Jvm.Cond.fieldLink "SaleRounds$Sales" (30 : Nat) "SaleRounds$Sales" "mark" "[I") ∈ wsG := tw1 221 rfl rfl
theorem wd311 : (Jvm.Cond.fieldLink "SaleRounds$Finder" (83 : Nat) "SaleRounds$Sales" "mark" "[I") ∈ wsG := tw1 222 rfl rfl
theorem wd312 : (Jvm.Cond.fieldLink "SaleRounds" (143 : Nat) "SaleRounds$Sales" "mark" "[I") ∈ wsG := tw1 223 rfl rfl
theorem wd313 : (Jvm.Cond.fieldLink "SaleRounds$Sales" (33 : Nat) "SaleRounds$Sales" "size" "I") ∈ wsG := tw1 224 rfl rfl
theorem wd314 : (Jvm.Cond.fieldLink "SaleRounds$Book" (64 : Nat) "SaleRounds$Sales" "size" "I") ∈ wsG := tw1 225 rfl rfl
theorem wd315 : (Jvm.Cond.fieldLink "SaleRounds$Streams" (63 : Nat) "SaleRounds$Sales" "size" "I") ∈ wsG := tw1 226 rfl rfl
theorem wd316 : (Jvm.Cond.fieldLink "SaleRounds$Finder" (74 : Nat) "SaleRounds$Sales" "size" "I") ∈ wsG := tw1 227 rfl rfl
theorem wd317 : (Jvm.Cond.fieldLink "SaleRounds" (195 : Nat) "SaleRounds$Sales" "size" "I") ∈ wsG := tw1 228 rfl rfl
theorem wd318 : (Jvm.Cond.fieldLink "SaleRounds$Reader" (129 : Nat) "SaleRounds$Sales" "size" "I") ∈ wsG := tw1 229 rfl rfl
theorem wd320 : (Jvm.Cond.fieldLink "SaleRounds$Book" (65 : Nat) "SaleRounds$Sales" "told" "I") ∈ wsG := tw1 231 rfl rfl
theorem wd321 : (Jvm.Cond.fieldLink "SaleRounds" (192 : Nat) "SaleRounds$Sales" "told" "I") ∈ wsG := tw1 232 rfl rfl
theorem wd341 : (Jvm.Cond.fieldLink "SaleRounds$Book" (12 : Nat) "SaleRounds$Book" "lands" "LSaleRounds$Names;") ∈ wsG := tw2 12 rfl rfl
theorem wd342 : (Jvm.Cond.fieldLink "SaleRounds$Reader" (76 : Nat) "SaleRounds$Book" "lands" "LSaleRounds$Names;") ∈ wsG := tw2 13 rfl rfl
theorem wd343 : (Jvm.Cond.fieldLink "SaleRounds" (93 : Nat) "SaleRounds$Book" "lands" "LSaleRounds$Names;") ∈ wsG := tw2 14 rfl rfl
theorem wd344 : (Jvm.Cond.fieldLink "SaleRounds$Book" (18 : Nat) "SaleRounds$Book" "goods" "LSaleRounds$Names;") ∈ wsG := tw2 15 rfl rfl
theorem wd345 : (Jvm.Cond.fieldLink "SaleRounds" (103 : Nat) "SaleRounds$Book" "goods" "LSaleRounds$Names;") ∈ wsG := tw2 16 rfl rfl
theorem wd346 : (Jvm.Cond.fieldLink "SaleRounds$Reader" (99 : Nat) "SaleRounds$Book" "goods" "LSaleRounds$Names;") ∈ wsG := tw2 17 rfl rfl
theorem wd347 : (Jvm.Cond.fieldLink "SaleRounds$Book" (21 : Nat) "SaleRounds$Book" "firms" "LSaleRounds$Names;") ∈ wsG := tw2 18 rfl rfl
theorem wd348 : (Jvm.Cond.fieldLink "SaleRounds" (106 : Nat) "SaleRounds$Book" "firms" "LSaleRounds$Names;") ∈ wsG := tw2 19 rfl rfl
theorem wd349 : (Jvm.Cond.fieldLink "SaleRounds$Reader" (102 : Nat) "SaleRounds$Book" "firms" "LSaleRounds$Names;") ∈ wsG := tw2 20 rfl rfl
theorem wd350 : (Jvm.Cond.fieldLink "SaleRounds$Book" (27 : Nat) "SaleRounds$Book" "sales" "LSaleRounds$Sales;") ∈ wsG := tw2 21 rfl rfl
theorem wd351 : (Jvm.Cond.fieldLink "SaleRounds" (109 : Nat) "SaleRounds$Book" "sales" "LSaleRounds$Sales;") ∈ wsG := tw2 22 rfl rfl
theorem wd352 : (Jvm.Cond.fieldLink "SaleRounds$Reader" (125 : Nat) "SaleRounds$Book" "sales" "LSaleRounds$Sales;") ∈ wsG := tw2 23 rfl rfl
theorem wd353 : (Jvm.Cond.fieldLink "SaleRounds$Book" (31 : Nat) "SaleRounds$Book" "tax" "[I") ∈ wsG := tw2 24 rfl rfl
theorem wd354 : (Jvm.Cond.fieldLink "SaleRounds$Reader" (95 : Nat) "SaleRounds$Book" "tax" "[I") ∈ wsG := tw2 25 rfl rfl
theorem wd355 : (Jvm.Cond.fieldLink "SaleRounds$Book" (35 : Nat) "SaleRounds$Book" "land" "[I") ∈ wsG := tw2 26 rfl rfl
theorem wd356 : (Jvm.Cond.fieldLink "SaleRounds" (157 : Nat) "SaleRounds$Book" "land" "[I") ∈ wsG := tw2 27 rfl rfl
theorem wd357 : (Jvm.Cond.fieldLink "SaleRounds$Book" (38 : Nat) "SaleRounds$Book" "since" "[I") ∈ wsG := tw2 28 rfl rfl
theorem wd358 : (Jvm.Cond.fieldLink "SaleRounds" (160 : Nat) "SaleRounds$Book" "since" "[I") ∈ wsG := tw2 29 rfl rfl
theorem wd359 : (Jvm.Cond.fieldLink "SaleRounds$Book" (41 : Nat) "SaleRounds$Book" "hand" "[I") ∈ wsG := tw2 30 rfl rfl
theorem wd360 : (Jvm.Cond.fieldLink "SaleRounds" (163 : Nat) "SaleRounds$Book" "hand" "[I") ∈ wsG := tw2 31 rfl rfl
theorem wd361 : (Jvm.Cond.fieldLink "SaleRounds$Reader" (119 : Nat) "SaleRounds$Book" "hand" "[I") ∈ wsG := tw2 32 rfl rfl
theorem wd362 : (Jvm.Cond.fieldLink "SaleRounds$Book" (44 : Nat) "SaleRounds$Book" "room" "[I") ∈ wsG := tw2 33 rfl rfl
theorem wd363 : (Jvm.Cond.fieldLink "SaleRounds" (166 : Nat) "SaleRounds$Book" "room" "[I") ∈ wsG := tw2 34 rfl rfl
theorem wd364 : (Jvm.Cond.fieldLink "SaleRounds$Reader" (122 : Nat) "SaleRounds$Book" "room" "[I") ∈ wsG := tw2 35 rfl rfl
theorem wd365 : (Jvm.Cond.fieldLink "SaleRounds$Book" (47 : Nat) "SaleRounds$Book" "paid" "[I") ∈ wsG := tw2 36 rfl rfl
theorem wd366 : (Jvm.Cond.fieldLink "SaleRounds" (172 : Nat) "SaleRounds$Book" "paid" "[I") ∈ wsG := tw2 37 rfl rfl
theorem wd367 : (Jvm.Cond.fieldLink "SaleRounds$Reader" (155 : Nat) "SaleRounds$Book" "paid" "[I") ∈ wsG := tw2 38 rfl rfl
theorem wd368 : (Jvm.Cond.fieldLink "SaleRounds$Book" (50 : Nat) "SaleRounds$Book" "paidTold" "[Z") ∈ wsG := tw2 39 rfl rfl
theorem wd369 : (Jvm.Cond.fieldLink "SaleRounds$Reader" (150 : Nat) "SaleRounds$Book" "paidTold" "[Z") ∈ wsG := tw2 40 rfl rfl
theorem wd370 : (Jvm.Cond.fieldLink "SaleRounds$Book" (54 : Nat) "SaleRounds$Book" "party" "[I") ∈ wsG := tw2 41 rfl rfl
theorem wd371 : (Jvm.Cond.fieldLink "SaleRounds" (178 : Nat) "SaleRounds$Book" "party" "[I") ∈ wsG := tw2 42 rfl rfl
theorem wd372 : (Jvm.Cond.fieldLink "SaleRounds$Book" (57 : Nat) "SaleRounds$Book" "owes" "[I") ∈ wsG := tw2 43 rfl rfl
theorem wd401 : (Jvm.Cond.fieldLink "SaleRounds" (12 : Nat) "SaleRounds" "reader" "LSaleRounds$Reader;") ∈ wsG := tw2 72 rfl rfl
theorem wd402 : (Jvm.Cond.fieldLink "SaleRounds" (21 : Nat) "SaleRounds" "finder" "LSaleRounds$Finder;") ∈ wsG := tw2 73 rfl rfl
theorem wd403 : (Jvm.Cond.fieldLink "SaleRounds" (28 : Nat) "SaleRounds" "streams" "LSaleRounds$Streams;") ∈ wsG := tw2 74 rfl rfl
theorem wd404 : (Jvm.Cond.fieldLink "SaleRounds" (35 : Nat) "SaleRounds" "now" "LSaleRounds$Book;") ∈ wsG := tw2 75 rfl rfl
theorem wd405 : (Jvm.Cond.fieldLink "SaleRounds" (39 : Nat) "SaleRounds" "spare" "LSaleRounds$Book;") ∈ wsG := tw2 76 rfl rfl
theorem wd406 : (Jvm.Cond.fieldLink "SaleRounds" (42 : Nat) "SaleRounds" "stopped" "I") ∈ wsG := tw2 77 rfl rfl
theorem wd407 : (Jvm.Cond.fieldLink "SaleRounds" (46 : Nat) "SaleRounds" "ruled" "I") ∈ wsG := tw2 78 rfl rfl
theorem wd408 : (Jvm.Cond.fieldLink "SaleRounds" (49 : Nat) "SaleRounds" "members" "[I") ∈ wsG := tw2 79 rfl rfl
theorem wd409 : (Jvm.Cond.fieldLink "SaleRounds" (53 : Nat) "SaleRounds" "worths" "[I") ∈ wsG := tw2 80 rfl rfl
theorem wd410 : (Jvm.Cond.fieldLink "SaleRounds" (56 : Nat) "SaleRounds" "landTakes" "[J") ∈ wsG := tw2 81 rfl rfl
theorem wd411 : (Jvm.Cond.fieldLink "SaleRounds" (60 : Nat) "SaleRounds" "landBurden" "[I") ∈ wsG := tw2 82 rfl rfl
theorem wd435 : (Jvm.Cond.methodLink "SaleRoundsLaw" (21 : Nat) ({ cls := "SaleRounds", name := "feed", desc := "(IIIII)I" } : Jvm.MethodName)) ∈ wsG := tw2 106 rfl rfl
theorem wd436 : (Jvm.Cond.instanceMethod ({ cls := "SaleRounds", name := "feed", desc := "(IIIII)I" } : Jvm.MethodName)) ∈ wsG := tw2 107 rfl rfl
theorem wd437 : (Jvm.Cond.selects "SaleRounds" ({ cls := "SaleRounds", name := "feed", desc := "(IIIII)I" } : Jvm.MethodName) ({ cls := "SaleRounds", name := "feed", desc := "(IIIII)I" } : Jvm.MethodName)) ∈ wsG := tw2 108 rfl rfl
theorem wd438 : (Jvm.Cond.code ({ cls := "SaleRounds", name := "feed", desc := "(IIIII)I" } : Jvm.MethodName) prog_1_method_2_code (6 : Nat) (Option.some Jvm.ClassFile.FieldType.int)) ∈ wsG := tw2 109 rfl rfl
theorem wd439 : (Jvm.Cond.methodLink "SaleRounds" (63 : Nat) ({ cls := "SaleRounds$Reader", name := "hasSpace", desc := "(I)Z" } : Jvm.MethodName)) ∈ wsG := tw2 110 rfl rfl
theorem wd440 : (Jvm.Cond.instanceMethod ({ cls := "SaleRounds$Reader", name := "hasSpace", desc := "(I)Z" } : Jvm.MethodName)) ∈ wsG := tw2 111 rfl rfl
theorem wd441 : (Jvm.Cond.selects "SaleRounds$Reader" ({ cls := "SaleRounds$Reader", name := "hasSpace", desc := "(I)Z" } : Jvm.MethodName) ({ cls := "SaleRounds$Reader", name := "hasSpace", desc := "(I)Z" } : Jvm.MethodName)) ∈ wsG := tw2 112 rfl rfl
theorem wd442 : (Jvm.Cond.code ({ cls := "SaleRounds$Reader", name := "hasSpace", desc := "(I)Z" } : Jvm.MethodName) prog_5_method_2_code (2 : Nat) (Option.some Jvm.ClassFile.FieldType.boolean)) ∈ wsG := tw2 113 rfl rfl
theorem wd443 : (Jvm.Cond.methodLink "SaleRounds" (67 : Nat) ({ cls := "SaleRounds$Reader", name := "push", desc := "(I)V" } : Jvm.MethodName)) ∈ wsG := tw2 114 rfl rfl
theorem wd444 : (Jvm.Cond.instanceMethod ({ cls := "SaleRounds$Reader", name := "push", desc := "(I)V" } : Jvm.MethodName)) ∈ wsG := tw2 115 rfl rfl
theorem wd445 : (Jvm.Cond.selects "SaleRounds$Reader" ({ cls := "SaleRounds$Reader", name := "push", desc := "(I)V" } : Jvm.MethodName) ({ cls := "SaleRounds$Reader", name := "push", desc := "(I)V" } : Jvm.MethodName)) ∈ wsG := tw2 116 rfl rfl
theorem wd446 : (Jvm.Cond.code ({ cls := "SaleRounds$Reader", name := "push", desc := "(I)V" } : Jvm.MethodName) prog_5_method_3_code (2 : Nat) (Option.none : Option Jvm.ClassFile.FieldType)) ∈ wsG := tw2 117 rfl rfl
theorem wd447 : (Jvm.Cond.methodLink "SaleRounds$Reader" (40 : Nat) ({ cls := "SaleRounds$Reader", name := "hasSpace", desc := "(I)Z" } : Jvm.MethodName)) ∈ wsG := tw2 118 rfl rfl
theorem wd448 : (Jvm.Cond.methodLink "SaleRoundsLaw" (26 : Nat) ({ cls := "SaleRounds", name := "book", desc := "(I)I" } : Jvm.MethodName)) ∈ wsG := tw2 119 rfl rfl
theorem wd449 : (Jvm.Cond.instanceMethod ({ cls := "SaleRounds", name := "book", desc := "(I)I" } : Jvm.MethodName)) ∈ wsG := tw2 120 rfl rfl
theorem wd450 : (Jvm.Cond.selects "SaleRounds" ({ cls := "SaleRounds", name := "book", desc := "(I)I" } : Jvm.MethodName) ({ cls := "SaleRounds", name := "book", desc := "(I)I" } : Jvm.MethodName)) ∈ wsG := tw2 121 rfl rfl
theorem wd451 : (Jvm.Cond.code ({ cls := "SaleRounds", name := "book", desc := "(I)I" } : Jvm.MethodName) prog_1_method_3_code (4 : Nat) (Option.some Jvm.ClassFile.FieldType.int)) ∈ wsG := tw2 122 rfl rfl
theorem wd452 : (Jvm.Cond.methodLink "SaleRounds" (74 : Nat) ({ cls := "SaleRounds$Book", name := "clear", desc := "()V" } : Jvm.MethodName)) ∈ wsG := tw2 123 rfl rfl
theorem wd453 : (Jvm.Cond.instanceMethod ({ cls := "SaleRounds$Book", name := "clear", desc := "()V" } : Jvm.MethodName)) ∈ wsG := tw2 124 rfl rfl
theorem wd454 : (Jvm.Cond.selects "SaleRounds$Book" ({ cls := "SaleRounds$Book", name := "clear", desc := "()V" } : Jvm.MethodName) ({ cls := "SaleRounds$Book", name := "clear", desc := "()V" } : Jvm.MethodName)) ∈ wsG := tw2 125 rfl rfl
theorem wd455 : (Jvm.Cond.code ({ cls := "SaleRounds$Book", name := "clear", desc := "()V" } : Jvm.MethodName) prog_2_method_2_code (1 : Nat) (Option.none : Option Jvm.ClassFile.FieldType)) ∈ wsG := tw2 126 rfl rfl
theorem wd456 : (Jvm.Cond.methodLink "SaleRounds" (77 : Nat) ({ cls := "SaleRounds$Reader", name := "read", desc := "(ILSaleRounds$Book;)I" } : Jvm.MethodName)) ∈ wsG := tw2 127 rfl rfl
theorem wd457 : (Jvm.Cond.instanceMethod ({ cls := "SaleRounds$Reader", name := "read", desc := "(ILSaleRounds$Book;)I" } : Jvm.MethodName)) ∈ wsG := tw2 128 rfl rfl
theorem wd458 : (Jvm.Cond.selects "SaleRounds$Reader" ({ cls := "SaleRounds$Reader", name := "read", desc := "(ILSaleRounds$Book;)I" } : Jvm.MethodName) ({ cls := "SaleRounds$Reader", name := "read", desc := "(ILSaleRounds$Book;)I" } : Jvm.MethodName)) ∈ wsG := tw2 129 rfl rfl
theorem wd459 : (Jvm.Cond.code ({ cls := "SaleRounds$Reader", name := "read", desc := "(ILSaleRounds$Book;)I" } : Jvm.MethodName) prog_5_method_4_code (5 : Nat) (Option.some Jvm.ClassFile.FieldType.int)) ∈ wsG := tw2 130 rfl rfl
theorem wd460 : (Jvm.Cond.methodLink "SaleRounds$Reader" (44 : Nat) ({ cls := "java/lang/Math", name := "min", desc := "(II)I" } : Jvm.MethodName)) ∈ wsG := tw2 131 rfl rfl
theorem wd461 : (Jvm.Cond.static ({ cls := "java/lang/Math", name := "min", desc := "(II)I" } : Jvm.MethodName)) ∈ wsG := tw2 132 rfl rfl
theorem wd462 : (Jvm.Cond.code ({ cls := "java/lang/Math", name := "min", desc := "(II)I" } : Jvm.MethodName) prog_16_method_69_code (2 : Nat) (Option.some Jvm.ClassFile.FieldType.int)) ∈ wsG := tw2 133 rfl rfl
theorem wd463 : (Jvm.Cond.methodLink "SaleRounds$Reader" (50 : Nat) ({ cls := "SaleRounds$Reader", name := "advance", desc := "()V" } : Jvm.MethodName)) ∈ wsG := tw2 134 rfl rfl
theorem wd465 : (Jvm.Cond.instanceMethod ({ cls := "SaleRounds$Reader", name := "advance", desc := "()V" } : Jvm.MethodName)) ∈ wsG := tw2 136 rfl rfl
theorem wd466 : (Jvm.Cond.code ({ cls := "SaleRounds$Reader", name := "advance", desc := "()V" } : Jvm.MethodName) prog_5_method_19_code (1 : Nat) (Option.none : Option Jvm.ClassFile.FieldType)) ∈ wsG := tw2 137 rfl rfl
theorem wd467 : (Jvm.Cond.methodLink "SaleRounds$Reader" (166 : Nat) ({ cls := "SaleRounds$Reader", name := "isLetter", desc := "(I)Z" } : Jvm.MethodName)) ∈ wsG := tw2 138 rfl rfl
theorem wd468 : (Jvm.Cond.static ({ cls := "SaleRounds$Reader", name := "isLetter", desc := "(I)Z" } : Jvm.MethodName)) ∈ wsG := tw2 139 rfl rfl
theorem wd469 : (Jvm.Cond.code ({ cls := "SaleRounds$Reader", name := "isLetter", desc := "(I)Z" } : Jvm.MethodName) prog_5_method_22_code (1 : Nat) (Option.some Jvm.ClassFile.FieldType.boolean)) ∈ wsG := tw2 140 rfl rfl
theorem wd470 : (Jvm.Cond.methodLink "SaleRounds$Reader" (169 : Nat) ({ cls := "SaleRounds$Reader", name := "takeWord", desc := "()V" } : Jvm.MethodName)) ∈ wsG := tw2 141 rfl rfl
theorem wd472 : (Jvm.Cond.instanceMethod ({ cls := "SaleRounds$Reader", name := "takeWord", desc := "()V" } : Jvm.MethodName)) ∈ wsG := tw2 143 rfl rfl
theorem wd473 : (Jvm.Cond.code ({ cls := "SaleRounds$Reader", name := "takeWord", desc := "()V" } : Jvm.MethodName) prog_5_method_20_code (2 : Nat) (Option.none : Option Jvm.ClassFile.FieldType)) ∈ wsG := tw2 144 rfl rfl
theorem wd474 : (Jvm.Cond.methodLink "SaleRounds$Reader" (172 : Nat) ({ cls := "SaleRounds$Reader", name := "isDigit", desc := "(I)Z" } : Jvm.MethodName)) ∈ wsG := tw2 145 rfl rfl
theorem wd475 : (Jvm.Cond.static ({ cls := "SaleRounds$Reader", name := "isDigit", desc := "(I)Z" } : Jvm.MethodName)) ∈ wsG := tw2 146 rfl rfl
theorem wd476 : (Jvm.Cond.code ({ cls := "SaleRounds$Reader", name := "isDigit", desc := "(I)Z" } : Jvm.MethodName) prog_5_method_23_code (1 : Nat) (Option.some Jvm.ClassFile.FieldType.boolean)) ∈ wsG := tw2 147 rfl rfl
theorem wd477 : (Jvm.Cond.methodLink "SaleRounds$Reader" (175 : Nat) ({ cls := "SaleRounds$Reader", name := "takeNumber", desc := "()V" } : Jvm.MethodName)) ∈ wsG := tw2 148 rfl rfl
theorem wd479 : (Jvm.Cond.instanceMethod ({ cls := "SaleRounds$Reader", name := "takeNumber", desc := "()V" } : Jvm.MethodName)) ∈ wsG := tw2 150 rfl rfl
theorem wd480 : (Jvm.Cond.code ({ cls := "SaleRounds$Reader", name := "takeNumber", desc := "()V" } : Jvm.MethodName) prog_5_method_21_code (1 : Nat) (Option.none : Option Jvm.ClassFile.FieldType)) ∈ wsG := tw2 151 rfl rfl
theorem wd481 : (Jvm.Cond.constant "SaleRounds$Reader" (178 : Nat) (1000000 : Int32)) ∈ wsG := tw2 152 rfl rfl
theorem wd482 : (Jvm.Cond.methodLink "SaleRounds$Reader" (53 : Nat) ({ cls := "SaleRounds$Reader", name := "readLand", desc := "(LSaleRounds$Book;)Z" } : Jvm.MethodName)) ∈ wsG := tw2 153 rfl rfl
theorem wd484 : (Jvm.Cond.instanceMethod ({ cls := "SaleRounds$Reader", name := "readLand", desc := "(LSaleRounds$Book;)Z" } : Jvm.MethodName)) ∈ wsG := tw2 155 rfl rfl
theorem wd485 : (Jvm.Cond.code ({ cls := "SaleRounds$Reader", name := "readLand", desc := "(LSaleRounds$Book;)Z" } : Jvm.MethodName) prog_5_method_5_code (5 : Nat) (Option.some Jvm.ClassFile.FieldType.boolean)) ∈ wsG := tw2 156 rfl rfl
theorem wd486 : (Jvm.Cond.methodLink "SaleRounds$Reader" (82 : Nat) ({ cls := "SaleRounds$Reader", name := "newName", desc := "(LSaleRounds$Names;I)I" } : Jvm.MethodName)) ∈ wsG := tw2 157 rfl rfl
theorem wd488 : (Jvm.Cond.instanceMethod ({ cls := "SaleRounds$Reader", name := "newName", desc := "(LSaleRounds$Names;I)I" } : Jvm.MethodName)) ∈ wsG := tw2 159 rfl rfl
theorem wd489 : (Jvm.Cond.code ({ cls := "SaleRounds$Reader", name := "newName", desc := "(LSaleRounds$Names;I)I" } : Jvm.MethodName) prog_5_method_13_code (4 : Nat) (Option.some Jvm.ClassFile.FieldType.int)) ∈ wsG := tw2 160 rfl rfl
theorem wd490 : (Jvm.Cond.methodLink "SaleRounds$Reader" (73 : Nat) ({ cls := "SaleRounds$Reader", name := "fail", desc := "(I)Z" } : Jvm.MethodName)) ∈ wsG := tw2 161 rfl rfl
theorem wd492 : (Jvm.Cond.instanceMethod ({ cls := "SaleRounds$Reader", name := "fail", desc := "(I)Z" } : Jvm.MethodName)) ∈ wsG := tw2 163 rfl rfl
theorem wd493 : (Jvm.Cond.code ({ cls := "SaleRounds$Reader", name := "fail", desc := "(I)Z" } : Jvm.MethodName) prog_5_method_17_code (2 : Nat) (Option.some Jvm.ClassFile.FieldType.boolean)) ∈ wsG := tw2 164 rfl rfl
theorem wd494 : (Jvm.Cond.methodLink "SaleRounds$Reader" (159 : Nat) ({ cls := "SaleRounds$Reader", name := "isOfLanguage", desc := "(I)Z" } : Jvm.MethodName)) ∈ wsG := tw2 165 rfl rfl
theorem wd495 : (Jvm.Cond.static ({ cls := "SaleRounds$Reader", name := "isOfLanguage", desc := "(I)Z" } : Jvm.MethodName)) ∈ wsG := tw2 166 rfl rfl
theorem wd496 : (Jvm.Cond.code ({ cls := "SaleRounds$Reader", name := "isOfLanguage", desc := "(I)Z" } : Jvm.MethodName) prog_5_method_18_code (1 : Nat) (Option.some Jvm.ClassFile.FieldType.boolean)) ∈ wsG := tw2 167 rfl rfl
theorem wd497 : (Jvm.Cond.methodLink "SaleRounds$Reader" (132 : Nat) ({ cls := "SaleRounds$Names", name := "find", desc := "(I)I" } : Jvm.MethodName)) ∈ wsG := tw2 168 rfl rfl
theorem wd498 : (Jvm.Cond.instanceMethod ({ cls := "SaleRounds$Names", name := "find", desc := "(I)I" } : Jvm.MethodName)) ∈ wsG := tw2 169 rfl rfl
theorem wd499 : (Jvm.Cond.selects "SaleRounds$Names" ({ cls := "SaleRounds$Names", name := "find", desc := "(I)I" } : Jvm.MethodName) ({ cls := "SaleRounds$Names", name := "find", desc := "(I)I" } : Jvm.MethodName)) ∈ wsG := tw2 170 rfl rfl
theorem wd500 : (Jvm.Cond.code ({ cls := "SaleRounds$Names", name := "find", desc := "(I)I" } : Jvm.MethodName) prog_4_method_3_code (3 : Nat) (Option.some Jvm.ClassFile.FieldType.int)) ∈ wsG := tw2 171 rfl rfl
theorem wd501 : (Jvm.Cond.methodLink "SaleRounds$Reader" (86 : Nat) ({ cls := "SaleRounds$Reader", name := "numberWithin", desc := "(II)I" } : Jvm.MethodName)) ∈ wsG := tw2 172 rfl rfl
theorem wd503 : (Jvm.Cond.instanceMethod ({ cls := "SaleRounds$Reader", name := "numberWithin", desc := "(II)I" } : Jvm.MethodName)) ∈ wsG := tw2 174 rfl rfl
theorem wd504 : (Jvm.Cond.code ({ cls := "SaleRounds$Reader", name := "numberWithin", desc := "(II)I" } : Jvm.MethodName) prog_5_method_15_code (4 : Nat) (Option.some Jvm.ClassFile.FieldType.int)) ∈ wsG := tw2 175 rfl rfl
theorem wd506 : (Jvm.Cond.static ({ cls := "SaleRounds", name := "within", desc := "(III)Z" } : Jvm.MethodName)) ∈ wsG := tw2 177 rfl rfl
theorem wd507 : (Jvm.Cond.code ({ cls := "SaleRounds", name := "within", desc := "(III)Z" } : Jvm.MethodName) prog_1_method_27_code (3 : Nat) (Option.some Jvm.ClassFile.FieldType.boolean)) ∈ wsG := tw2 178 rfl rfl
theorem wd508 : (Jvm.Cond.methodLink "SaleRounds$Reader" (89 : Nat) ({ cls := "SaleRounds$Names", name := "add", desc := "(I)I" } : Jvm.MethodName)) ∈ wsG := tw2 179 rfl rfl
theorem wd509 : (Jvm.Cond.instanceMethod ({ cls := "SaleRounds$Names", name := "add", desc := "(I)I" } : Jvm.MethodName)) ∈ wsG := tw2 180 rfl rfl
theorem wd510 : (Jvm.Cond.selects "SaleRounds$Names" ({ cls := "SaleRounds$Names", name := "add", desc := "(I)I" } : Jvm.MethodName) ({ cls := "SaleRounds$Names", name := "add", desc := "(I)I" } : Jvm.MethodName)) ∈ wsG := tw2 181 rfl rfl
theorem wd511 : (Jvm.Cond.code ({ cls := "SaleRounds$Names", name := "add", desc := "(I)I" } : Jvm.MethodName) prog_4_method_4_code (2 : Nat) (Option.some Jvm.ClassFile.FieldType.int)) ∈ wsG := tw2 182 rfl rfl
theorem wd512 : (Jvm.Cond.methodLink "SaleRounds$Reader" (57 : Nat) ({ cls := "SaleRounds$Reader", name := "lineEnds", desc := "()Z" } : Jvm.MethodName)) ∈ wsG := tw2 183 rfl rfl
theorem wd514 : (Jvm.Cond.instanceMethod ({ cls := "SaleRounds$Reader", name := "lineEnds", desc := "()Z" } : Jvm.MethodName)) ∈ wsG := tw2 185 rfl rfl
theorem wd515 : (Jvm.Cond.code ({ cls := "SaleRounds$Reader", name := "lineEnds", desc := "()Z" } : Jvm.MethodName) prog_5_method_16_code (1 : Nat) (Option.some Jvm.ClassFile.FieldType.boolean)) ∈ wsG := tw2 186 rfl rfl
theorem wd516 : (Jvm.Cond.methodLink "SaleRounds$Reader" (61 : Nat) ({ cls := "SaleRounds$Reader", name := "readGood", desc := "(LSaleRounds$Book;)Z" } : Jvm.MethodName)) ∈ wsG := tw2 187 rfl rfl
theorem wd518 : (Jvm.Cond.instanceMethod ({ cls := "SaleRounds$Reader", name := "readGood", desc := "(LSaleRounds$Book;)Z" } : Jvm.MethodName)) ∈ wsG := tw2 189 rfl rfl
theorem wd519 : (Jvm.Cond.code ({ cls := "SaleRounds$Reader", name := "readGood", desc := "(LSaleRounds$Book;)Z" } : Jvm.MethodName) prog_5_method_6_code (3 : Nat) (Option.some Jvm.ClassFile.FieldType.boolean)) ∈ wsG := tw2 190 rfl rfl
theorem wd520 : (Jvm.Cond.methodLink "SaleRounds$Reader" (64 : Nat) ({ cls := "SaleRounds$Reader", name := "readFirm", desc := "(LSaleRounds$Book;)Z" } : Jvm.MethodName)) ∈ wsG := tw2 191 rfl rfl
theorem wd522 : (Jvm.Cond.instanceMethod ({ cls := "SaleRounds$Reader", name := "readFirm", desc := "(LSaleRounds$Book;)Z" } : Jvm.MethodName)) ∈ wsG := tw2 193 rfl rfl
theorem wd523 : (Jvm.Cond.code ({ cls := "SaleRounds$Reader", name := "readFirm", desc := "(LSaleRounds$Book;)Z" } : Jvm.MethodName) prog_5_method_7_code (6 : Nat) (Option.some Jvm.ClassFile.FieldType.boolean)) ∈ wsG := tw2 194 rfl rfl
theorem wd524 : (Jvm.Cond.methodLink "SaleRounds$Reader" (105 : Nat) ({ cls := "SaleRounds$Reader", name := "toldName", desc := "(LSaleRounds$Names;)I" } : Jvm.MethodName)) ∈ wsG := tw2 195 rfl rfl
theorem wd526 : (Jvm.Cond.instanceMethod ({ cls := "SaleRounds$Reader", name := "toldName", desc := "(LSaleRounds$Names;)I" } : Jvm.MethodName)) ∈ wsG := tw2 197 rfl rfl
theorem wd527 : (Jvm.Cond.code ({ cls := "SaleRounds$Reader", name := "toldName", desc := "(LSaleRounds$Names;)I" } : Jvm.MethodName) prog_5_method_14_code (3 : Nat) (Option.some Jvm.ClassFile.FieldType.int)) ∈ wsG := tw2 198 rfl rfl
theorem wd528 : (Jvm.Cond.methodLink "SaleRounds$Reader" (109 : Nat) ({ cls := "SaleRounds$Book", name := "addFirm", desc := "(III)I" } : Jvm.MethodName)) ∈ wsG := tw2 199 rfl rfl
theorem wd529 : (Jvm.Cond.instanceMethod ({ cls := "SaleRounds$Book", name := "addFirm", desc := "(III)I" } : Jvm.MethodName)) ∈ wsG := tw2 200 rfl rfl
theorem wd530 : (Jvm.Cond.selects "SaleRounds$Book" ({ cls := "SaleRounds$Book", name := "addFirm", desc := "(III)I" } : Jvm.MethodName) ({ cls := "SaleRounds$Book", name := "addFirm", desc := "(III)I" } : Jvm.MethodName)) ∈ wsG := tw2 201 rfl rfl
theorem wd531 : (Jvm.Cond.code ({ cls := "SaleRounds$Book", name := "addFirm", desc := "(III)I" } : Jvm.MethodName) prog_2_method_3_code (5 : Nat) (Option.some Jvm.ClassFile.FieldType.int)) ∈ wsG := tw2 202 rfl rfl
theorem wd532 : (Jvm.Cond.methodLink "SaleRounds$Book" (68 : Nat) ({ cls := "SaleRounds$Names", name := "add", desc := "(I)I" } : Jvm.MethodName)) ∈ wsG := tw2 203 rfl rfl
theorem wd533 : (Jvm.Cond.methodLink "SaleRounds$Reader" (113 : Nat) ({ cls := "SaleRounds$Reader", name := "readTie", desc := "(LSaleRounds$Book;I)Z" } : Jvm.MethodName)) ∈ wsG := tw2 204 rfl rfl
theorem wd535 : (Jvm.Cond.instanceMethod ({ cls := "SaleRounds$Reader", name := "readTie", desc := "(LSaleRounds$Book;I)Z" } : Jvm.MethodName)) ∈ wsG := tw2 206 rfl rfl
theorem wd536 : (Jvm.Cond.code ({ cls := "SaleRounds$Reader", name := "readTie", desc := "(LSaleRounds$Book;I)Z" } : Jvm.MethodName) prog_5_method_8_code (5 : Nat) (Option.some Jvm.ClassFile.FieldType.boolean)) ∈ wsG := tw2 207 rfl rfl
theorem wd537 : (Jvm.Cond.constant "SaleRounds$Reader" (117 : Nat) (269946880 : Int32)) ∈ wsG := tw2 208 rfl rfl
theorem wd538 : (Jvm.Cond.constant "SaleRounds$Reader" (118 : Nat) (620213248 : Int32)) ∈ wsG := tw2 209 rfl rfl
theorem wd539 : (Jvm.Cond.methodLink "SaleRounds$Reader" (67 : Nat) ({ cls := "SaleRounds$Reader", name := "readSale", desc := "(LSaleRounds$Book;)Z" } : Jvm.MethodName)) ∈ wsG := tw2 210 rfl rfl
theorem wd541 : (Jvm.Cond.instanceMethod ({ cls := "SaleRounds$Reader", name := "readSale", desc := "(LSaleRounds$Book;)Z" } : Jvm.MethodName)) ∈ wsG := tw2 212 rfl rfl
theorem wd542 : (Jvm.Cond.code ({ cls := "SaleRounds$Reader", name := "readSale", desc := "(LSaleRounds$Book;)Z" } : Jvm.MethodName) prog_5_method_9_code (9 : Nat) (Option.some Jvm.ClassFile.FieldType.boolean)) ∈ wsG := tw2 213 rfl rfl
theorem wd543 : (Jvm.Cond.methodLink "SaleRounds$Reader" (135 : Nat) ({ cls := "SaleRounds$Book", name := "sinceBoth", desc := "(II)I" } : Jvm.MethodName)) ∈ wsG := tw2 214 rfl rfl
theorem wd544 : (Jvm.Cond.instanceMethod ({ cls := "SaleRounds$Book", name := "sinceBoth", desc := "(II)I" } : Jvm.MethodName)) ∈ wsG := tw2 215 rfl rfl
theorem wd545 : (Jvm.Cond.selects "SaleRounds$Book" ({ cls := "SaleRounds$Book", name := "sinceBoth", desc := "(II)I" } : Jvm.MethodName) ({ cls := "SaleRounds$Book", name := "sinceBoth", desc := "(II)I" } : Jvm.MethodName)) ∈ wsG := tw2 216 rfl rfl
theorem wd546 : (Jvm.Cond.code ({ cls := "SaleRounds$Book", name := "sinceBoth", desc := "(II)I" } : Jvm.MethodName) prog_2_method_4_code (3 : Nat) (Option.some Jvm.ClassFile.FieldType.int)) ∈ wsG := tw2 217 rfl rfl
theorem wd547 : (Jvm.Cond.methodLink "SaleRounds$Book" (72 : Nat) ({ cls := "java/lang/Math", name := "max", desc := "(II)I" } : Jvm.MethodName)) ∈ wsG := tw2 218 rfl rfl
theorem wd548 : (Jvm.Cond.static ({ cls := "java/lang/Math", name := "max", desc := "(II)I" } : Jvm.MethodName)) ∈ wsG := tw2 219 rfl rfl
theorem wd549 : (Jvm.Cond.code ({ cls := "java/lang/Math", name := "max", desc := "(II)I" } : Jvm.MethodName) prog_16_method_65_code (2 : Nat) (Option.some Jvm.ClassFile.FieldType.int)) ∈ wsG := tw2 220 rfl rfl
theorem wd550 : (Jvm.Cond.methodLink "SaleRounds$Reader" (138 : Nat) ({ cls := "SaleRounds$Reader", name := "readDay", desc := "(I)I" } : Jvm.MethodName)) ∈ wsG := tw2 221 rfl rfl
theorem wd552 : (Jvm.Cond.instanceMethod ({ cls := "SaleRounds$Reader", name := "readDay", desc := "(I)I" } : Jvm.MethodName)) ∈ wsG := tw2 223 rfl rfl
theorem wd553 : (Jvm.Cond.code ({ cls := "SaleRounds$Reader", name := "readDay", desc := "(I)I" } : Jvm.MethodName) prog_5_method_10_code (4 : Nat) (Option.some Jvm.ClassFile.FieldType.int)) ∈ wsG := tw2 224 rfl rfl
theorem wd554 : (Jvm.Cond.constant "SaleRounds$Reader" (148 : Nat) (136085504 : Int32)) ∈ wsG := tw2 225 rfl rfl
theorem wd555 : (Jvm.Cond.methodLink "SaleRounds$Reader" (141 : Nat) ({ cls := "SaleRounds$Reader", name := "readMark", desc := "()I" } : Jvm.MethodName)) ∈ wsG := tw2 226 rfl rfl
theorem wd557 : (Jvm.Cond.instanceMethod ({ cls := "SaleRounds$Reader", name := "readMark", desc := "()I" } : Jvm.MethodName)) ∈ wsG := tw2 228 rfl rfl
theorem wd558 : (Jvm.Cond.code ({ cls := "SaleRounds$Reader", name := "readMark", desc := "()I" } : Jvm.MethodName) prog_5_method_11_code (1 : Nat) (Option.some Jvm.ClassFile.FieldType.int)) ∈ wsG := tw2 229 rfl rfl
theorem wd559 : (Jvm.Cond.constant "SaleRounds$Reader" (149 : Nat) (437857280 : Int32)) ∈ wsG := tw2 230 rfl rfl
theorem wd560 : (Jvm.Cond.methodLink "SaleRounds$Reader" (145 : Nat) ({ cls := "SaleRounds$Sales", name := "add", desc := "(IIIIIII)Z" } : Jvm.MethodName)) ∈ wsG := tw2 231 rfl rfl
theorem wd561 : (Jvm.Cond.instanceMethod ({ cls := "SaleRounds$Sales", name := "add", desc := "(IIIIIII)Z" } : Jvm.MethodName)) ∈ wsG := tw2 232 rfl rfl
theorem wd562 : (Jvm.Cond.selects "SaleRounds$Sales" ({ cls := "SaleRounds$Sales", name := "add", desc := "(IIIIIII)Z" } : Jvm.MethodName) ({ cls := "SaleRounds$Sales", name := "add", desc := "(IIIIIII)Z" } : Jvm.MethodName)) ∈ wsG := tw2 233 rfl rfl
theorem wd563 : (Jvm.Cond.code ({ cls := "SaleRounds$Sales", name := "add", desc := "(IIIIIII)Z" } : Jvm.MethodName) prog_6_method_3_code (8 : Nat) (Option.some Jvm.ClassFile.FieldType.boolean)) ∈ wsG := tw2 234 rfl rfl
theorem wd564 : (Jvm.Cond.methodLink "SaleRounds$Reader" (70 : Nat) ({ cls := "SaleRounds$Reader", name := "readPaid", desc := "(LSaleRounds$Book;)Z" } : Jvm.MethodName)) ∈ wsG := tw2 235 rfl rfl
theorem wd566 : (Jvm.Cond.instanceMethod ({ cls := "SaleRounds$Reader", name := "readPaid", desc := "(LSaleRounds$Book;)Z" } : Jvm.MethodName)) ∈ wsG := tw2 237 rfl rfl
theorem wd567 : (Jvm.Cond.code ({ cls := "SaleRounds$Reader", name := "readPaid", desc := "(LSaleRounds$Book;)Z" } : Jvm.MethodName) prog_5_method_12_code (4 : Nat) (Option.some Jvm.ClassFile.FieldType.boolean)) ∈ wsG := tw2 238 rfl rfl
theorem wd568 : (Jvm.Cond.constant "SaleRounds$Reader" (154 : Nat) (999999 : Int32)) ∈ wsG := tw2 239 rfl rfl
theorem wd569 : (Jvm.Cond.methodLink "SaleRounds" (81 : Nat) ({ cls := "SaleRounds$Book", name := "joinParties", desc := "()V" } : Jvm.MethodName)) ∈ wsG := tw3 0 rfl rfl
theorem wd570 : (Jvm.Cond.instanceMethod ({ cls := "SaleRounds$Book", name := "joinParties", desc := "()V" } : Jvm.MethodName)) ∈ wsG := tw3 1 rfl rfl
theorem wd571 : (Jvm.Cond.selects "SaleRounds$Book" ({ cls := "SaleRounds$Book", name := "joinParties", desc := "()V" } : Jvm.MethodName) ({ cls := "SaleRounds$Book", name := "joinParties", desc := "()V" } : Jvm.MethodName)) ∈ wsG := tw3 2 rfl rfl
theorem wd572 : (Jvm.Cond.code ({ cls := "SaleRounds$Book", name := "joinParties", desc := "()V" } : Jvm.MethodName) prog_2_method_5_code (3 : Nat) (Option.none : Option Jvm.ClassFile.FieldType)) ∈ wsG := tw3 3 rfl rfl
theorem wd573 : (Jvm.Cond.methodLink "SaleRounds$Book" (78 : Nat) ({ cls := "SaleRounds$Book", name := "areJoined", desc := "(II)Z" } : Jvm.MethodName)) ∈ wsG := tw3 4 rfl rfl
theorem wd575 : (Jvm.Cond.instanceMethod ({ cls := "SaleRounds$Book", name := "areJoined", desc := "(II)Z" } : Jvm.MethodName)) ∈ wsG := tw3 6 rfl rfl
theorem wd576 : (Jvm.Cond.code ({ cls := "SaleRounds$Book", name := "areJoined", desc := "(II)Z" } : Jvm.MethodName) prog_2_method_6_code (3 : Nat) (Option.some Jvm.ClassFile.FieldType.boolean)) ∈ wsG := tw3 7 rfl rfl
theorem wd577 : (Jvm.Cond.methodLink "SaleRounds$Book" (82 : Nat) ({ cls := "SaleRounds$Book", name := "mergeParties", desc := "(II)V" } : Jvm.MethodName)) ∈ wsG := tw3 8 rfl rfl
theorem wd579 : (Jvm.Cond.instanceMethod ({ cls := "SaleRounds$Book", name := "mergeParties", desc := "(II)V" } : Jvm.MethodName)) ∈ wsG := tw3 10 rfl rfl
theorem wd580 : (Jvm.Cond.code ({ cls := "SaleRounds$Book", name := "mergeParties", desc := "(II)V" } : Jvm.MethodName) prog_2_method_7_code (5 : Nat) (Option.none : Option Jvm.ClassFile.FieldType)) ∈ wsG := tw3 11 rfl rfl
theorem wd581 : (Jvm.Cond.methodLink "SaleRounds$Book" (86 : Nat) ({ cls := "java/lang/Math", name := "min", desc := "(II)I" } : Jvm.MethodName)) ∈ wsG := tw3 12 rfl rfl
theorem wd582 : (Jvm.Cond.methodLink "SaleRounds" (84 : Nat) ({ cls := "SaleRounds$Finder", name := "forget", desc := "()V" } : Jvm.MethodName)) ∈ wsG := tw3 13 rfl rfl
theorem wd583 : (Jvm.Cond.instanceMethod ({ cls := "SaleRounds$Finder", name := "forget", desc := "()V" } : Jvm.MethodName)) ∈ wsG := tw3 14 rfl rfl
theorem wd584 : (Jvm.Cond.selects "SaleRounds$Finder" ({ cls := "SaleRounds$Finder", name := "forget", desc := "()V" } : Jvm.MethodName) ({ cls := "SaleRounds$Finder", name := "forget", desc := "()V" } : Jvm.MethodName)) ∈ wsG := tw3 15 rfl rfl
theorem wd585 : (Jvm.Cond.code ({ cls := "SaleRounds$Finder", name := "forget", desc := "()V" } : Jvm.MethodName) prog_3_method_2_code (1 : Nat) (Option.none : Option Jvm.ClassFile.FieldType)) ∈ wsG := tw3 16 rfl rfl
theorem wd586 : (Jvm.Cond.methodLink "SaleRoundsLaw" (31 : Nat) ({ cls := "SaleRounds", name := "fault", desc := "(I)I" } : Jvm.MethodName)) ∈ wsG := tw3 17 rfl rfl
theorem wd587 : (Jvm.Cond.instanceMethod ({ cls := "SaleRounds", name := "fault", desc := "(I)I" } : Jvm.MethodName)) ∈ wsG := tw3 18 rfl rfl
theorem wd588 : (Jvm.Cond.selects "SaleRounds" ({ cls := "SaleRounds", name := "fault", desc := "(I)I" } : Jvm.MethodName) ({ cls := "SaleRounds", name := "fault", desc := "(I)I" } : Jvm.MethodName)) ∈ wsG := tw3 19 rfl rfl
theorem wd589 : (Jvm.Cond.code ({ cls := "SaleRounds", name := "fault", desc := "(I)I" } : Jvm.MethodName) prog_1_method_4_code (2 : Nat) (Option.some Jvm.ClassFile.FieldType.int)) ∈ wsG := tw3 20 rfl rfl
theorem wd590 : (Jvm.Cond.methodLink "SaleRoundsLaw" (35 : Nat) ({ cls := "SaleRounds", name := "named", desc := "(II)I" } : Jvm.MethodName)) ∈ wsG := tw3 21 rfl rfl
theorem wd591 : (Jvm.Cond.instanceMethod ({ cls := "SaleRounds", name := "named", desc := "(II)I" } : Jvm.MethodName)) ∈ wsG := tw3 22 rfl rfl
theorem wd592 : (Jvm.Cond.selects "SaleRounds" ({ cls := "SaleRounds", name := "named", desc := "(II)I" } : Jvm.MethodName) ({ cls := "SaleRounds", name := "named", desc := "(II)I" } : Jvm.MethodName)) ∈ wsG := tw3 23 rfl rfl
theorem wd593 : (Jvm.Cond.code ({ cls := "SaleRounds", name := "named", desc := "(II)I" } : Jvm.MethodName) prog_1_method_5_code (3 : Nat) (Option.some Jvm.ClassFile.FieldType.int)) ∈ wsG := tw3 24 rfl rfl
theorem wd594 : (Jvm.Cond.methodLink "SaleRounds" (97 : Nat) ({ cls := "SaleRounds$Names", name := "find", desc := "(I)I" } : Jvm.MethodName)) ∈ wsG := tw3 25 rfl rfl
theorem wd595 : (Jvm.Cond.methodLink "SaleRoundsLaw" (45 : Nat) ({ cls := "SaleRounds", name := "firm", desc := "(II)I" } : Jvm.MethodName)) ∈ wsG := tw3 26 rfl rfl
theorem wd596 : (Jvm.Cond.instanceMethod ({ cls := "SaleRounds", name := "firm", desc := "(II)I" } : Jvm.MethodName)) ∈ wsG := tw3 27 rfl rfl
theorem wd597 : (Jvm.Cond.selects "SaleRounds" ({ cls := "SaleRounds", name := "firm", desc := "(II)I" } : Jvm.MethodName) ({ cls := "SaleRounds", name := "firm", desc := "(II)I" } : Jvm.MethodName)) ∈ wsG := tw3 28 rfl rfl
theorem wd598 : (Jvm.Cond.code ({ cls := "SaleRounds", name := "firm", desc := "(II)I" } : Jvm.MethodName) prog_1_method_7_code (3 : Nat) (Option.some Jvm.ClassFile.FieldType.int)) ∈ wsG := tw3 29 rfl rfl
theorem wd599 : (Jvm.Cond.methodLink "SaleRounds" (155 : Nat) ({ cls := "SaleRounds$Names", name := "has", desc := "(I)Z" } : Jvm.MethodName)) ∈ wsG := tw3 30 rfl rfl
theorem wd600 : (Jvm.Cond.instanceMethod ({ cls := "SaleRounds$Names", name := "has", desc := "(I)Z" } : Jvm.MethodName)) ∈ wsG := tw3 31 rfl rfl
theorem wd601 : (Jvm.Cond.selects "SaleRounds$Names" ({ cls := "SaleRounds$Names", name := "has", desc := "(I)Z" } : Jvm.MethodName) ({ cls := "SaleRounds$Names", name := "has", desc := "(I)Z" } : Jvm.MethodName)) ∈ wsG := tw3 32 rfl rfl
theorem wd602 : (Jvm.Cond.code ({ cls := "SaleRounds$Names", name := "has", desc := "(I)Z" } : Jvm.MethodName) prog_4_method_2_code (2 : Nat) (Option.some Jvm.ClassFile.FieldType.boolean)) ∈ wsG := tw3 33 rfl rfl
theorem wd603 : (Jvm.Cond.constant "SaleRounds" (156 : Nat) (-2147483648 : Int32)) ∈ wsG := tw3 34 rfl rfl
theorem wd604 : (Jvm.Cond.methodLink "SaleRounds" (169 : Nat) ({ cls := "SaleRounds$Book", name := "owed", desc := "(II)I" } : Jvm.MethodName)) ∈ wsG := tw3 35 rfl rfl
theorem wd605 : (Jvm.Cond.instanceMethod ({ cls := "SaleRounds$Book", name := "owed", desc := "(II)I" } : Jvm.MethodName)) ∈ wsG := tw3 36 rfl rfl
theorem wd606 : (Jvm.Cond.selects "SaleRounds$Book" ({ cls := "SaleRounds$Book", name := "owed", desc := "(II)I" } : Jvm.MethodName) ({ cls := "SaleRounds$Book", name := "owed", desc := "(II)I" } : Jvm.MethodName)) ∈ wsG := tw3 37 rfl rfl
theorem wd607 : (Jvm.Cond.code ({ cls := "SaleRounds$Book", name := "owed", desc := "(II)I" } : Jvm.MethodName) prog_2_method_13_code (3 : Nat) (Option.some Jvm.ClassFile.FieldType.int)) ∈ wsG := tw3 38 rfl rfl
theorem wd608 : (Jvm.Cond.methodLink "SaleRounds$Book" (107 : Nat) ({ cls := "SaleRounds$Book", name := "tally", desc := "(I)V" } : Jvm.MethodName)) ∈ wsG := tw3 39 rfl rfl
theorem wd610 : (Jvm.Cond.instanceMethod ({ cls := "SaleRounds$Book", name := "tally", desc := "(I)V" } : Jvm.MethodName)) ∈ wsG := tw3 41 rfl rfl
theorem wd611 : (Jvm.Cond.code ({ cls := "SaleRounds$Book", name := "tally", desc := "(I)V" } : Jvm.MethodName) prog_2_method_12_code (4 : Nat) (Option.none : Option Jvm.ClassFile.FieldType)) ∈ wsG := tw3 42 rfl rfl
theorem wd612 : (Jvm.Cond.methodLink "SaleRounds$Book" (104 : Nat) ({ cls := "SaleRounds$Book", name := "taxOf", desc := "(II)I" } : Jvm.MethodName)) ∈ wsG := tw3 43 rfl rfl
theorem wd613 : (Jvm.Cond.instanceMethod ({ cls := "SaleRounds$Book", name := "taxOf", desc := "(II)I" } : Jvm.MethodName)) ∈ wsG := tw3 44 rfl rfl
theorem wd614 : (Jvm.Cond.selects "SaleRounds$Book" ({ cls := "SaleRounds$Book", name := "taxOf", desc := "(II)I" } : Jvm.MethodName) ({ cls := "SaleRounds$Book", name := "taxOf", desc := "(II)I" } : Jvm.MethodName)) ∈ wsG := tw3 45 rfl rfl
theorem wd615 : (Jvm.Cond.code ({ cls := "SaleRounds$Book", name := "taxOf", desc := "(II)I" } : Jvm.MethodName) prog_2_method_11_code (3 : Nat) (Option.some Jvm.ClassFile.FieldType.int)) ∈ wsG := tw3 46 rfl rfl
theorem wd616 : (Jvm.Cond.methodLink "SaleRounds$Book" (101 : Nat) ({ cls := "SaleRounds$Book", name := "taxEach", desc := "(II)I" } : Jvm.MethodName)) ∈ wsG := tw3 47 rfl rfl
theorem wd618 : (Jvm.Cond.instanceMethod ({ cls := "SaleRounds$Book", name := "taxEach", desc := "(II)I" } : Jvm.MethodName)) ∈ wsG := tw3 49 rfl rfl
theorem wd619 : (Jvm.Cond.code ({ cls := "SaleRounds$Book", name := "taxEach", desc := "(II)I" } : Jvm.MethodName) prog_2_method_10_code (4 : Nat) (Option.some Jvm.ClassFile.FieldType.int)) ∈ wsG := tw3 50 rfl rfl
theorem wd620 : (Jvm.Cond.methodLink "SaleRounds" (175 : Nat) ({ cls := "SaleRounds$Book", name := "missing", desc := "(I)I" } : Jvm.MethodName)) ∈ wsG := tw3 51 rfl rfl
theorem wd621 : (Jvm.Cond.instanceMethod ({ cls := "SaleRounds$Book", name := "missing", desc := "(I)I" } : Jvm.MethodName)) ∈ wsG := tw3 52 rfl rfl
theorem wd622 : (Jvm.Cond.selects "SaleRounds$Book" ({ cls := "SaleRounds$Book", name := "missing", desc := "(I)I" } : Jvm.MethodName) ({ cls := "SaleRounds$Book", name := "missing", desc := "(I)I" } : Jvm.MethodName)) ∈ wsG := tw3 53 rfl rfl
theorem wd623 : (Jvm.Cond.code ({ cls := "SaleRounds$Book", name := "missing", desc := "(I)I" } : Jvm.MethodName) prog_2_method_14_code (4 : Nat) (Option.some Jvm.ClassFile.FieldType.int)) ∈ wsG := tw3 54 rfl rfl
theorem wd624 : (Jvm.Cond.methodLink "SaleRoundsLaw" (49 : Nat) ({ cls := "SaleRounds", name := "sell", desc := "(IIIIIII)I" } : Jvm.MethodName)) ∈ wsG := tw3 55 rfl rfl
theorem wd625 : (Jvm.Cond.instanceMethod ({ cls := "SaleRounds", name := "sell", desc := "(IIIIIII)I" } : Jvm.MethodName)) ∈ wsG := tw3 56 rfl rfl
theorem wd626 : (Jvm.Cond.selects "SaleRounds" ({ cls := "SaleRounds", name := "sell", desc := "(IIIIIII)I" } : Jvm.MethodName) ({ cls := "SaleRounds", name := "sell", desc := "(IIIIIII)I" } : Jvm.MethodName)) ∈ wsG := tw3 57 rfl rfl
theorem wd627 : (Jvm.Cond.code ({ cls := "SaleRounds", name := "sell", desc := "(IIIIIII)I" } : Jvm.MethodName) prog_1_method_8_code (10 : Nat) (Option.some Jvm.ClassFile.FieldType.int)) ∈ wsG := tw3 58 rfl rfl
theorem wd628 : (Jvm.Cond.methodLink "SaleRounds" (181 : Nat) ({ cls := "SaleRounds", name := "within", desc := "(III)Z" } : Jvm.MethodName)) ∈ wsG := tw3 59 rfl rfl
theorem wd629 : (Jvm.Cond.methodLink "SaleRounds" (185 : Nat) ({ cls := "SaleRounds$Book", name := "sinceBoth", desc := "(II)I" } : Jvm.MethodName)) ∈ wsG := tw3 60 rfl rfl
theorem wd630 : (Jvm.Cond.methodLink "SaleRounds" (188 : Nat) ({ cls := "SaleRounds$Sales", name := "add", desc := "(IIIIIII)Z" } : Jvm.MethodName)) ∈ wsG := tw3 61 rfl rfl
theorem wd631 : (Jvm.Cond.methodLink "SaleRoundsLaw" (54 : Nat) ({ cls := "SaleRounds", name := "undo", desc := "()I" } : Jvm.MethodName)) ∈ wsG := tw3 62 rfl rfl
theorem wd632 : (Jvm.Cond.instanceMethod ({ cls := "SaleRounds", name := "undo", desc := "()I" } : Jvm.MethodName)) ∈ wsG := tw3 63 rfl rfl
theorem wd633 : (Jvm.Cond.selects "SaleRounds" ({ cls := "SaleRounds", name := "undo", desc := "()I" } : Jvm.MethodName) ({ cls := "SaleRounds", name := "undo", desc := "()I" } : Jvm.MethodName)) ∈ wsG := tw3 64 rfl rfl
theorem wd634 : (Jvm.Cond.code ({ cls := "SaleRounds", name := "undo", desc := "()I" } : Jvm.MethodName) prog_1_method_9_code (2 : Nat) (Option.some Jvm.ClassFile.FieldType.int)) ∈ wsG := tw3 65 rfl rfl
theorem wd635 : (Jvm.Cond.methodLink "SaleRoundsLaw" (59 : Nat) ({ cls := "SaleRounds", name := "pay", desc := "(II)I" } : Jvm.MethodName)) ∈ wsG := tw3 66 rfl rfl
theorem wd636 : (Jvm.Cond.instanceMethod ({ cls := "SaleRounds", name := "pay", desc := "(II)I" } : Jvm.MethodName)) ∈ wsG := tw3 67 rfl rfl
theorem wd637 : (Jvm.Cond.selects "SaleRounds" ({ cls := "SaleRounds", name := "pay", desc := "(II)I" } : Jvm.MethodName) ({ cls := "SaleRounds", name := "pay", desc := "(II)I" } : Jvm.MethodName)) ∈ wsG := tw3 68 rfl rfl
theorem wd638 : (Jvm.Cond.code ({ cls := "SaleRounds", name := "pay", desc := "(II)I" } : Jvm.MethodName) prog_1_method_10_code (3 : Nat) (Option.some Jvm.ClassFile.FieldType.int)) ∈ wsG := tw3 69 rfl rfl
theorem wd639 : (Jvm.Cond.constant "SaleRounds" (196 : Nat) (999999 : Int32)) ∈ wsG := tw3 70 rfl rfl
theorem wd640 : (Jvm.Cond.methodLink "SaleRoundsLaw" (63 : Nat) ({ cls := "SaleRounds", name := "rounds", desc := "(III)I" } : Jvm.MethodName)) ∈ wsG := tw3 71 rfl rfl
theorem wd641 : (Jvm.Cond.instanceMethod ({ cls := "SaleRounds", name := "rounds", desc := "(III)I" } : Jvm.MethodName)) ∈ wsG := tw3 72 rfl rfl
theorem wd642 : (Jvm.Cond.selects "SaleRounds" ({ cls := "SaleRounds", name := "rounds", desc := "(III)I" } : Jvm.MethodName) ({ cls := "SaleRounds", name := "rounds", desc := "(III)I" } : Jvm.MethodName)) ∈ wsG := tw3 73 rfl rfl
theorem wd643 : (Jvm.Cond.code ({ cls := "SaleRounds", name := "rounds", desc := "(III)I" } : Jvm.MethodName) prog_1_method_11_code (4 : Nat) (Option.some Jvm.ClassFile.FieldType.int)) ∈ wsG := tw3 74 rfl rfl
theorem wd644 : (Jvm.Cond.methodLink "SaleRounds" (197 : Nat) ({ cls := "SaleRounds", name := "gather", desc := "(III)I" } : Jvm.MethodName)) ∈ wsG := tw3 75 rfl rfl
theorem wd646 : (Jvm.Cond.instanceMethod ({ cls := "SaleRounds", name := "gather", desc := "(III)I" } : Jvm.MethodName)) ∈ wsG := tw3 77 rfl rfl
theorem wd647 : (Jvm.Cond.code ({ cls := "SaleRounds", name := "gather", desc := "(III)I" } : Jvm.MethodName) prog_1_method_30_code (4 : Nat) (Option.some Jvm.ClassFile.FieldType.int)) ∈ wsG := tw3 78 rfl rfl
theorem wd648 : (Jvm.Cond.methodLink "SaleRounds" (281 : Nat) ({ cls := "SaleRounds$Finder", name := "find", desc := "(LSaleRounds$Sales;IIII)I" } : Jvm.MethodName)) ∈ wsG := tw3 79 rfl rfl
theorem wd649 : (Jvm.Cond.instanceMethod ({ cls := "SaleRounds$Finder", name := "find", desc := "(LSaleRounds$Sales;IIII)I" } : Jvm.MethodName)) ∈ wsG := tw3 80 rfl rfl
theorem wd650 : (Jvm.Cond.selects "SaleRounds$Finder" ({ cls := "SaleRounds$Finder", name := "find", desc := "(LSaleRounds$Sales;IIII)I" } : Jvm.MethodName) ({ cls := "SaleRounds$Finder", name := "find", desc := "(LSaleRounds$Sales;IIII)I" } : Jvm.MethodName)) ∈ wsG := tw3 81 rfl rfl
theorem wd651 : (Jvm.Cond.code ({ cls := "SaleRounds$Finder", name := "find", desc := "(LSaleRounds$Sales;IIII)I" } : Jvm.MethodName) prog_3_method_3_code (7 : Nat) (Option.some Jvm.ClassFile.FieldType.int)) ∈ wsG := tw3 82 rfl rfl
theorem wd652 : (Jvm.Cond.methodLink "SaleRounds$Finder" (66 : Nat) ({ cls := "SaleRounds$Finder", name := "load", desc := "(LSaleRounds$Sales;II)V" } : Jvm.MethodName)) ∈ wsG := tw3 83 rfl rfl
theorem wd653 : (Jvm.Cond.instanceMethod ({ cls := "SaleRounds$Finder", name := "load", desc := "(LSaleRounds$Sales;II)V" } : Jvm.MethodName)) ∈ wsG := tw3 84 rfl rfl
theorem wd654 : (Jvm.Cond.selects "SaleRounds$Finder" ({ cls := "SaleRounds$Finder", name := "load", desc := "(LSaleRounds$Sales;II)V" } : Jvm.MethodName) ({ cls := "SaleRounds$Finder", name := "load", desc := "(LSaleRounds$Sales;II)V" } : Jvm.MethodName)) ∈ wsG := tw3 85 rfl rfl
theorem wd655 : (Jvm.Cond.code ({ cls := "SaleRounds$Finder", name := "load", desc := "(LSaleRounds$Sales;II)V" } : Jvm.MethodName) prog_3_method_4_code (6 : Nat) (Option.none : Option Jvm.ClassFile.FieldType)) ∈ wsG := tw3 86 rfl rfl
theorem wd656 : (Jvm.Cond.methodLink "SaleRounds$Finder" (70 : Nat) ({ cls := "SaleRounds$Finder", name := "search", desc := "(II)I" } : Jvm.MethodName)) ∈ wsG := tw3 87 rfl rfl
theorem wd657 : (Jvm.Cond.instanceMethod ({ cls := "SaleRounds$Finder", name := "search", desc := "(II)I" } : Jvm.MethodName)) ∈ wsG := tw3 88 rfl rfl
theorem wd658 : (Jvm.Cond.selects "SaleRounds$Finder" ({ cls := "SaleRounds$Finder", name := "search", desc := "(II)I" } : Jvm.MethodName) ({ cls := "SaleRounds$Finder", name := "search", desc := "(II)I" } : Jvm.MethodName)) ∈ wsG := tw3 89 rfl rfl
theorem wd659 : (Jvm.Cond.code ({ cls := "SaleRounds$Finder", name := "search", desc := "(II)I" } : Jvm.MethodName) prog_3_method_6_code (4 : Nat) (Option.some Jvm.ClassFile.FieldType.int)) ∈ wsG := tw3 90 rfl rfl
theorem wd660 : (Jvm.Cond.methodLink "SaleRounds$Finder" (94 : Nat) ({ cls := "SaleRounds$Finder", name := "linkSales", desc := "()V" } : Jvm.MethodName)) ∈ wsG := tw3 91 rfl rfl
theorem wd662 : (Jvm.Cond.instanceMethod ({ cls := "SaleRounds$Finder", name := "linkSales", desc := "()V" } : Jvm.MethodName)) ∈ wsG := tw3 93 rfl rfl
theorem wd663 : (Jvm.Cond.code ({ cls := "SaleRounds$Finder", name := "linkSales", desc := "()V" } : Jvm.MethodName) prog_3_method_7_code (3 : Nat) (Option.none : Option Jvm.ClassFile.FieldType)) ∈ wsG := tw3 94 rfl rfl
theorem wd664 : (Jvm.Cond.methodLink "SaleRounds$Finder" (97 : Nat) ({ cls := "SaleRounds$Finder", name := "measure", desc := "(I)V" } : Jvm.MethodName)) ∈ wsG := tw3 95 rfl rfl
theorem wd666 : (Jvm.Cond.instanceMethod ({ cls := "SaleRounds$Finder", name := "measure", desc := "(I)V" } : Jvm.MethodName)) ∈ wsG := tw3 97 rfl rfl
theorem wd667 : (Jvm.Cond.code ({ cls := "SaleRounds$Finder", name := "measure", desc := "(I)V" } : Jvm.MethodName) prog_3_method_8_code (9 : Nat) (Option.none : Option Jvm.ClassFile.FieldType)) ∈ wsG := tw3 98 rfl rfl
theorem wd668 : (Jvm.Cond.methodLink "SaleRounds$Finder" (101 : Nat) ({ cls := "SaleRounds$Finder", name := "extend", desc := "(JIII)V" } : Jvm.MethodName)) ∈ wsG := tw3 99 rfl rfl
theorem wd670 : (Jvm.Cond.instanceMethod ({ cls := "SaleRounds$Finder", name := "extend", desc := "(JIII)V" } : Jvm.MethodName)) ∈ wsG := tw3 101 rfl rfl
theorem wd671 : (Jvm.Cond.code ({ cls := "SaleRounds$Finder", name := "extend", desc := "(JIII)V" } : Jvm.MethodName) prog_3_method_9_code (9 : Nat) (Option.none : Option Jvm.ClassFile.FieldType)) ∈ wsG := tw3 102 rfl rfl
theorem wd672 : (Jvm.Cond.methodLink "SaleRounds$Finder" (105 : Nat) ({ cls := "SaleRounds$Finder", name := "keep", desc := "(JI)V" } : Jvm.MethodName)) ∈ wsG := tw3 103 rfl rfl
theorem wd674 : (Jvm.Cond.instanceMethod ({ cls := "SaleRounds$Finder", name := "keep", desc := "(JI)V" } : Jvm.MethodName)) ∈ wsG := tw3 105 rfl rfl
theorem wd675 : (Jvm.Cond.code ({ cls := "SaleRounds$Finder", name := "keep", desc := "(JI)V" } : Jvm.MethodName) prog_3_method_10_code (4 : Nat) (Option.none : Option Jvm.ClassFile.FieldType)) ∈ wsG := tw3 106 rfl rfl
theorem wd676 : (Jvm.Cond.methodLink "SaleRoundsLaw" (68 : Nat) ({ cls := "SaleRounds", name := "round", desc := "(IIIII)I" } : Jvm.MethodName)) ∈ wsG := tw3 107 rfl rfl
theorem wd677 : (Jvm.Cond.instanceMethod ({ cls := "SaleRounds", name := "round", desc := "(IIIII)I" } : Jvm.MethodName)) ∈ wsG := tw3 108 rfl rfl
theorem wd678 : (Jvm.Cond.selects "SaleRounds" ({ cls := "SaleRounds", name := "round", desc := "(IIIII)I" } : Jvm.MethodName) ({ cls := "SaleRounds", name := "round", desc := "(IIIII)I" } : Jvm.MethodName)) ∈ wsG := tw3 109 rfl rfl
theorem wd679 : (Jvm.Cond.code ({ cls := "SaleRounds", name := "round", desc := "(IIIII)I" } : Jvm.MethodName) prog_1_method_12_code (10 : Nat) (Option.some Jvm.ClassFile.FieldType.int)) ∈ wsG := tw3 110 rfl rfl
theorem wd680 : (Jvm.Cond.methodLink "SaleRounds" (207 : Nat) ({ cls := "SaleRounds$Book", name := "carriedBy", desc := "(JI)I" } : Jvm.MethodName)) ∈ wsG := tw3 111 rfl rfl
theorem wd681 : (Jvm.Cond.instanceMethod ({ cls := "SaleRounds$Book", name := "carriedBy", desc := "(JI)I" } : Jvm.MethodName)) ∈ wsG := tw3 112 rfl rfl
theorem wd682 : (Jvm.Cond.selects "SaleRounds$Book" ({ cls := "SaleRounds$Book", name := "carriedBy", desc := "(JI)I" } : Jvm.MethodName) ({ cls := "SaleRounds$Book", name := "carriedBy", desc := "(JI)I" } : Jvm.MethodName)) ∈ wsG := tw3 113 rfl rfl
theorem wd683 : (Jvm.Cond.code ({ cls := "SaleRounds$Book", name := "carriedBy", desc := "(JI)I" } : Jvm.MethodName) prog_2_method_17_code (6 : Nat) (Option.some Jvm.ClassFile.FieldType.int)) ∈ wsG := tw3 114 rfl rfl
theorem wd685 : (Jvm.Cond.static ({ cls := "SaleRounds", name := "saleAt", desc := "(JI)I" } : Jvm.MethodName)) ∈ wsG := tw3 116 rfl rfl
theorem wd686 : (Jvm.Cond.code ({ cls := "SaleRounds", name := "saleAt", desc := "(JI)I" } : Jvm.MethodName) prog_1_method_29_code (3 : Nat) (Option.some Jvm.ClassFile.FieldType.int)) ∈ wsG := tw3 117 rfl rfl
theorem wd687 : (Jvm.Cond.constantLong "SaleRounds" (279 : Nat) (63 : Int64)) ∈ wsG := tw3 118 rfl rfl
theorem wd688 : (Jvm.Cond.methodLink "SaleRounds" (211 : Nat) ({ cls := "SaleRounds$Book", name := "takenBy", desc := "(JIII)I" } : Jvm.MethodName)) ∈ wsG := tw3 119 rfl rfl
theorem wd689 : (Jvm.Cond.instanceMethod ({ cls := "SaleRounds$Book", name := "takenBy", desc := "(JIII)I" } : Jvm.MethodName)) ∈ wsG := tw3 120 rfl rfl
theorem wd690 : (Jvm.Cond.selects "SaleRounds$Book" ({ cls := "SaleRounds$Book", name := "takenBy", desc := "(JIII)I" } : Jvm.MethodName) ({ cls := "SaleRounds$Book", name := "takenBy", desc := "(JIII)I" } : Jvm.MethodName)) ∈ wsG := tw3 121 rfl rfl
theorem wd691 : (Jvm.Cond.code ({ cls := "SaleRounds$Book", name := "takenBy", desc := "(JIII)I" } : Jvm.MethodName) prog_2_method_18_code (10 : Nat) (Option.some Jvm.ClassFile.FieldType.int)) ∈ wsG := tw3 122 rfl rfl
theorem wd692 : (Jvm.Cond.methodLink "SaleRounds$Book" (118 : Nat) ({ cls := "SaleRounds$Book", name := "carriedBy", desc := "(JI)I" } : Jvm.MethodName)) ∈ wsG := tw3 123 rfl rfl
theorem wd693 : (Jvm.Cond.methodLink "SaleRounds" (215 : Nat) ({ cls := "SaleRounds$Book", name := "firmsOf", desc := "(JI)I" } : Jvm.MethodName)) ∈ wsG := tw3 124 rfl rfl
theorem wd694 : (Jvm.Cond.instanceMethod ({ cls := "SaleRounds$Book", name := "firmsOf", desc := "(JI)I" } : Jvm.MethodName)) ∈ wsG := tw3 125 rfl rfl
theorem wd695 : (Jvm.Cond.selects "SaleRounds$Book" ({ cls := "SaleRounds$Book", name := "firmsOf", desc := "(JI)I" } : Jvm.MethodName) ({ cls := "SaleRounds$Book", name := "firmsOf", desc := "(JI)I" } : Jvm.MethodName)) ∈ wsG := tw3 126 rfl rfl
theorem wd696 : (Jvm.Cond.code ({ cls := "SaleRounds$Book", name := "firmsOf", desc := "(JI)I" } : Jvm.MethodName) prog_2_method_16_code (6 : Nat) (Option.some Jvm.ClassFile.FieldType.int)) ∈ wsG := tw3 127 rfl rfl
theorem wd697 : (Jvm.Cond.methodLink "SaleRounds" (218 : Nat) ({ cls := "SaleRounds", name := "saleAt", desc := "(JI)I" } : Jvm.MethodName)) ∈ wsG := tw3 128 rfl rfl
theorem wd698 : (Jvm.Cond.methodLink "SaleRoundsLaw" (74 : Nat) ({ cls := "SaleRounds", name := "judge", desc := "(IIJ)I" } : Jvm.MethodName)) ∈ wsG := tw3 129 rfl rfl
theorem wd699 : (Jvm.Cond.instanceMethod ({ cls := "SaleRounds", name := "judge", desc := "(IIJ)I" } : Jvm.MethodName)) ∈ wsG := tw3 130 rfl rfl
theorem wd700 : (Jvm.Cond.selects "SaleRounds" ({ cls := "SaleRounds", name := "judge", desc := "(IIJ)I" } : Jvm.MethodName) ({ cls := "SaleRounds", name := "judge", desc := "(IIJ)I" } : Jvm.MethodName)) ∈ wsG := tw3 131 rfl rfl
theorem wd701 : (Jvm.Cond.code ({ cls := "SaleRounds", name := "judge", desc := "(IIJ)I" } : Jvm.MethodName) prog_1_method_13_code (6 : Nat) (Option.some Jvm.ClassFile.FieldType.int)) ∈ wsG := tw3 132 rfl rfl
theorem wd702 : (Jvm.Cond.methodLink "SaleRounds" (113 : Nat) ({ cls := "SaleRounds$Sales", name := "has", desc := "(I)Z" } : Jvm.MethodName)) ∈ wsG := tw3 133 rfl rfl
theorem wd703 : (Jvm.Cond.instanceMethod ({ cls := "SaleRounds$Sales", name := "has", desc := "(I)Z" } : Jvm.MethodName)) ∈ wsG := tw3 134 rfl rfl
theorem wd704 : (Jvm.Cond.selects "SaleRounds$Sales" ({ cls := "SaleRounds$Sales", name := "has", desc := "(I)Z" } : Jvm.MethodName) ({ cls := "SaleRounds$Sales", name := "has", desc := "(I)Z" } : Jvm.MethodName)) ∈ wsG := tw3 135 rfl rfl
theorem wd705 : (Jvm.Cond.code ({ cls := "SaleRounds$Sales", name := "has", desc := "(I)Z" } : Jvm.MethodName) prog_6_method_2_code (2 : Nat) (Option.some Jvm.ClassFile.FieldType.boolean)) ∈ wsG := tw3 136 rfl rfl
theorem wd706 : (Jvm.Cond.methodLink "SaleRounds" (221 : Nat) ({ cls := "SaleRounds$Sales", name := "goRound", desc := "(IIJI)Z" } : Jvm.MethodName)) ∈ wsG := tw3 137 rfl rfl
theorem wd707 : (Jvm.Cond.instanceMethod ({ cls := "SaleRounds$Sales", name := "goRound", desc := "(IIJI)Z" } : Jvm.MethodName)) ∈ wsG := tw3 138 rfl rfl
theorem wd708 : (Jvm.Cond.selects "SaleRounds$Sales" ({ cls := "SaleRounds$Sales", name := "goRound", desc := "(IIJI)Z" } : Jvm.MethodName) ({ cls := "SaleRounds$Sales", name := "goRound", desc := "(IIJI)Z" } : Jvm.MethodName)) ∈ wsG := tw3 139 rfl rfl
theorem wd709 : (Jvm.Cond.code ({ cls := "SaleRounds$Sales", name := "goRound", desc := "(IIJI)Z" } : Jvm.MethodName) prog_6_method_4_code (11 : Nat) (Option.some Jvm.ClassFile.FieldType.boolean)) ∈ wsG := tw3 140 rfl rfl
theorem wd711 : (Jvm.Cond.methodLink "SaleRounds$Sales" (44 : Nat) ({ cls := "SaleRounds$Sales", name := "alike", desc := "(III)Z" } : Jvm.MethodName)) ∈ wsG := tw3 142 rfl rfl
theorem wd713 : (Jvm.Cond.instanceMethod ({ cls := "SaleRounds$Sales", name := "alike", desc := "(III)Z" } : Jvm.MethodName)) ∈ wsG := tw3 144 rfl rfl
theorem wd714 : (Jvm.Cond.code ({ cls := "SaleRounds$Sales", name := "alike", desc := "(III)Z" } : Jvm.MethodName) prog_6_method_5_code (4 : Nat) (Option.some Jvm.ClassFile.FieldType.boolean)) ∈ wsG := tw3 145 rfl rfl
theorem wd715 : (Jvm.Cond.methodLink "SaleRoundsLaw" (79 : Nat) ({ cls := "SaleRounds", name := "takes", desc := "(III)J" } : Jvm.MethodName)) ∈ wsG := tw3 146 rfl rfl
theorem wd716 : (Jvm.Cond.instanceMethod ({ cls := "SaleRounds", name := "takes", desc := "(III)J" } : Jvm.MethodName)) ∈ wsG := tw3 147 rfl rfl
theorem wd717 : (Jvm.Cond.selects "SaleRounds" ({ cls := "SaleRounds", name := "takes", desc := "(III)J" } : Jvm.MethodName) ({ cls := "SaleRounds", name := "takes", desc := "(III)J" } : Jvm.MethodName)) ∈ wsG := tw3 148 rfl rfl
theorem wd718 : (Jvm.Cond.code ({ cls := "SaleRounds", name := "takes", desc := "(III)J" } : Jvm.MethodName) prog_1_method_14_code (9 : Nat) (Option.some Jvm.ClassFile.FieldType.long)) ∈ wsG := tw3 149 rfl rfl
theorem wd719 : (Jvm.Cond.methodLink "SaleRoundsLaw" (84 : Nat) ({ cls := "SaleRounds", name := "flow", desc := "(II)I" } : Jvm.MethodName)) ∈ wsG := tw3 150 rfl rfl
theorem wd720 : (Jvm.Cond.instanceMethod ({ cls := "SaleRounds", name := "flow", desc := "(II)I" } : Jvm.MethodName)) ∈ wsG := tw3 151 rfl rfl
theorem wd721 : (Jvm.Cond.selects "SaleRounds" ({ cls := "SaleRounds", name := "flow", desc := "(II)I" } : Jvm.MethodName) ({ cls := "SaleRounds", name := "flow", desc := "(II)I" } : Jvm.MethodName)) ∈ wsG := tw3 152 rfl rfl
theorem wd722 : (Jvm.Cond.code ({ cls := "SaleRounds", name := "flow", desc := "(II)I" } : Jvm.MethodName) prog_1_method_15_code (3 : Nat) (Option.some Jvm.ClassFile.FieldType.int)) ∈ wsG := tw3 153 rfl rfl
theorem wd723 : (Jvm.Cond.methodLink "SaleRounds" (225 : Nat) ({ cls := "SaleRounds$Streams", name := "most", desc := "(LSaleRounds$Sales;III)I" } : Jvm.MethodName)) ∈ wsG := tw3 154 rfl rfl
theorem wd724 : (Jvm.Cond.instanceMethod ({ cls := "SaleRounds$Streams", name := "most", desc := "(LSaleRounds$Sales;III)I" } : Jvm.MethodName)) ∈ wsG := tw3 155 rfl rfl
theorem wd725 : (Jvm.Cond.selects "SaleRounds$Streams" ({ cls := "SaleRounds$Streams", name := "most", desc := "(LSaleRounds$Sales;III)I" } : Jvm.MethodName) ({ cls := "SaleRounds$Streams", name := "most", desc := "(LSaleRounds$Sales;III)I" } : Jvm.MethodName)) ∈ wsG := tw3 156 rfl rfl
theorem wd726 : (Jvm.Cond.code ({ cls := "SaleRounds$Streams", name := "most", desc := "(LSaleRounds$Sales;III)I" } : Jvm.MethodName) prog_7_method_2_code (9 : Nat) (Option.some Jvm.ClassFile.FieldType.int)) ∈ wsG := tw3 157 rfl rfl
theorem wd727 : (Jvm.Cond.methodLink "SaleRounds$Streams" (46 : Nat) ({ cls := "SaleRounds$Streams", name := "load", desc := "(LSaleRounds$Sales;II)V" } : Jvm.MethodName)) ∈ wsG := tw3 158 rfl rfl
theorem wd729 : (Jvm.Cond.instanceMethod ({ cls := "SaleRounds$Streams", name := "load", desc := "(LSaleRounds$Sales;II)V" } : Jvm.MethodName)) ∈ wsG := tw3 160 rfl rfl
theorem wd730 : (Jvm.Cond.code ({ cls := "SaleRounds$Streams", name := "load", desc := "(LSaleRounds$Sales;II)V" } : Jvm.MethodName) prog_7_method_3_code (6 : Nat) (Option.none : Option Jvm.ClassFile.FieldType)) ∈ wsG := tw3 161 rfl rfl
theorem wd731 : (Jvm.Cond.constant "SaleRounds$Streams" (50 : Nat) (39960 : Int32)) ∈ wsG := tw3 162 rfl rfl
theorem wd732 : (Jvm.Cond.methodLink "SaleRounds$Streams" (51 : Nat) ({ cls := "SaleRounds$Streams", name := "seekHome", desc := "()I" } : Jvm.MethodName)) ∈ wsG := tw3 163 rfl rfl
theorem wd734 : (Jvm.Cond.instanceMethod ({ cls := "SaleRounds$Streams", name := "seekHome", desc := "()I" } : Jvm.MethodName)) ∈ wsG := tw3 165 rfl rfl
theorem wd735 : (Jvm.Cond.code ({ cls := "SaleRounds$Streams", name := "seekHome", desc := "()I" } : Jvm.MethodName) prog_7_method_4_code (4 : Nat) (Option.some Jvm.ClassFile.FieldType.int)) ∈ wsG := tw3 166 rfl rfl
theorem wd736 : (Jvm.Cond.methodLink "SaleRounds$Streams" (73 : Nat) ({ cls := "SaleRounds$Streams", name := "visit", desc := "(II)V" } : Jvm.MethodName)) ∈ wsG := tw3 167 rfl rfl
theorem wd738 : (Jvm.Cond.instanceMethod ({ cls := "SaleRounds$Streams", name := "visit", desc := "(II)V" } : Jvm.MethodName)) ∈ wsG := tw3 169 rfl rfl
theorem wd739 : (Jvm.Cond.code ({ cls := "SaleRounds$Streams", name := "visit", desc := "(II)V" } : Jvm.MethodName) prog_7_method_5_code (3 : Nat) (Option.none : Option Jvm.ClassFile.FieldType)) ∈ wsG := tw3 170 rfl rfl
theorem wd740 : (Jvm.Cond.methodLink "SaleRounds$Streams" (76 : Nat) ({ cls := "SaleRounds$Streams", name := "spreadIn", desc := "(I)V" } : Jvm.MethodName)) ∈ wsG := tw3 171 rfl rfl
theorem wd742 : (Jvm.Cond.instanceMethod ({ cls := "SaleRounds$Streams", name := "spreadIn", desc := "(I)V" } : Jvm.MethodName)) ∈ wsG := tw3 173 rfl rfl
theorem wd743 : (Jvm.Cond.code ({ cls := "SaleRounds$Streams", name := "spreadIn", desc := "(I)V" } : Jvm.MethodName) prog_7_method_6_code (3 : Nat) (Option.none : Option Jvm.ClassFile.FieldType)) ∈ wsG := tw3 174 rfl rfl
theorem wd744 : (Jvm.Cond.methodLink "SaleRounds$Streams" (80 : Nat) ({ cls := "SaleRounds$Streams", name := "spreadOut", desc := "(I)V" } : Jvm.MethodName)) ∈ wsG := tw3 175 rfl rfl
theorem wd746 : (Jvm.Cond.instanceMethod ({ cls := "SaleRounds$Streams", name := "spreadOut", desc := "(I)V" } : Jvm.MethodName)) ∈ wsG := tw3 177 rfl rfl
theorem wd747 : (Jvm.Cond.code ({ cls := "SaleRounds$Streams", name := "spreadOut", desc := "(I)V" } : Jvm.MethodName) prog_7_method_7_code (3 : Nat) (Option.none : Option Jvm.ClassFile.FieldType)) ∈ wsG := tw3 178 rfl rfl
theorem wd748 : (Jvm.Cond.methodLink "SaleRounds$Streams" (55 : Nat) ({ cls := "SaleRounds$Streams", name := "narrowest", desc := "(I)I" } : Jvm.MethodName)) ∈ wsG := tw3 179 rfl rfl
theorem wd750 : (Jvm.Cond.instanceMethod ({ cls := "SaleRounds$Streams", name := "narrowest", desc := "(I)I" } : Jvm.MethodName)) ∈ wsG := tw3 181 rfl rfl
theorem wd751 : (Jvm.Cond.code ({ cls := "SaleRounds$Streams", name := "narrowest", desc := "(I)I" } : Jvm.MethodName) prog_7_method_8_code (5 : Nat) (Option.some Jvm.ClassFile.FieldType.int)) ∈ wsG := tw3 182 rfl rfl
theorem wd752 : (Jvm.Cond.methodLink "SaleRounds$Streams" (83 : Nat) ({ cls := "SaleRounds$Streams", name := "space", desc := "(II)I" } : Jvm.MethodName)) ∈ wsG := tw3 183 rfl rfl
theorem wd754 : (Jvm.Cond.instanceMethod ({ cls := "SaleRounds$Streams", name := "space", desc := "(II)I" } : Jvm.MethodName)) ∈ wsG := tw3 185 rfl rfl
theorem wd755 : (Jvm.Cond.code ({ cls := "SaleRounds$Streams", name := "space", desc := "(II)I" } : Jvm.MethodName) prog_7_method_9_code (5 : Nat) (Option.some Jvm.ClassFile.FieldType.int)) ∈ wsG := tw3 186 rfl rfl
theorem wd756 : (Jvm.Cond.methodLink "SaleRounds$Streams" (87 : Nat) ({ cls := "java/lang/Math", name := "min", desc := "(II)I" } : Jvm.MethodName)) ∈ wsG := tw3 187 rfl rfl
theorem wd757 : (Jvm.Cond.methodLink "SaleRounds$Streams" (59 : Nat) ({ cls := "SaleRounds$Streams", name := "send", desc := "(II)V" } : Jvm.MethodName)) ∈ wsG := tw3 188 rfl rfl
theorem wd759 : (Jvm.Cond.instanceMethod ({ cls := "SaleRounds$Streams", name := "send", desc := "(II)V" } : Jvm.MethodName)) ∈ wsG := tw3 190 rfl rfl
theorem wd760 : (Jvm.Cond.code ({ cls := "SaleRounds$Streams", name := "send", desc := "(II)V" } : Jvm.MethodName) prog_7_method_10_code (5 : Nat) (Option.none : Option Jvm.ClassFile.FieldType)) ∈ wsG := tw3 191 rfl rfl
theorem wd761 : (Jvm.Cond.methodLink "SaleRounds$Streams" (92 : Nat) ({ cls := "SaleRounds$Streams", name := "addBetween", desc := "(III)V" } : Jvm.MethodName)) ∈ wsG := tw3 192 rfl rfl
theorem wd763 : (Jvm.Cond.instanceMethod ({ cls := "SaleRounds$Streams", name := "addBetween", desc := "(III)V" } : Jvm.MethodName)) ∈ wsG := tw3 194 rfl rfl
theorem wd764 : (Jvm.Cond.code ({ cls := "SaleRounds$Streams", name := "addBetween", desc := "(III)V" } : Jvm.MethodName) prog_7_method_11_code (6 : Nat) (Option.none : Option Jvm.ClassFile.FieldType)) ∈ wsG := tw3 195 rfl rfl
theorem wd765 : (Jvm.Cond.methodLink "SaleRoundsLaw" (88 : Nat) ({ cls := "SaleRounds", name := "luck", desc := "(IIIII)I" } : Jvm.MethodName)) ∈ wsG := tw3 196 rfl rfl
theorem wd766 : (Jvm.Cond.instanceMethod ({ cls := "SaleRounds", name := "luck", desc := "(IIIII)I" } : Jvm.MethodName)) ∈ wsG := tw3 197 rfl rfl
theorem wd767 : (Jvm.Cond.selects "SaleRounds" ({ cls := "SaleRounds", name := "luck", desc := "(IIIII)I" } : Jvm.MethodName) ({ cls := "SaleRounds", name := "luck", desc := "(IIIII)I" } : Jvm.MethodName)) ∈ wsG := tw3 198 rfl rfl
theorem wd768 : (Jvm.Cond.code ({ cls := "SaleRounds", name := "luck", desc := "(IIIII)I" } : Jvm.MethodName) prog_1_method_16_code (12 : Nat) (Option.some Jvm.ClassFile.FieldType.int)) ∈ wsG := tw3 199 rfl rfl
theorem wd769 : (Jvm.Cond.methodLink "SaleRounds" (229 : Nat) ({ cls := "SaleRounds$Finder", name := "load", desc := "(LSaleRounds$Sales;II)V" } : Jvm.MethodName)) ∈ wsG := tw3 200 rfl rfl
theorem wd770 : (Jvm.Cond.methodLink "SaleRounds" (233 : Nat) ({ cls := "SaleRounds$Finder", name := "shuffle", desc := "(J)J" } : Jvm.MethodName)) ∈ wsG := tw3 201 rfl rfl
theorem wd771 : (Jvm.Cond.instanceMethod ({ cls := "SaleRounds$Finder", name := "shuffle", desc := "(J)J" } : Jvm.MethodName)) ∈ wsG := tw3 202 rfl rfl
theorem wd772 : (Jvm.Cond.selects "SaleRounds$Finder" ({ cls := "SaleRounds$Finder", name := "shuffle", desc := "(J)J" } : Jvm.MethodName) ({ cls := "SaleRounds$Finder", name := "shuffle", desc := "(J)J" } : Jvm.MethodName)) ∈ wsG := tw3 203 rfl rfl
theorem wd773 : (Jvm.Cond.code ({ cls := "SaleRounds$Finder", name := "shuffle", desc := "(J)J" } : Jvm.MethodName) prog_3_method_5_code (8 : Nat) (Option.some Jvm.ClassFile.FieldType.long)) ∈ wsG := tw3 204 rfl rfl
theorem wd774 : (Jvm.Cond.constantLong "SaleRounds$Finder" (86 : Nat) (1103515245 : Int64)) ∈ wsG := tw3 205 rfl rfl
theorem wd775 : (Jvm.Cond.constantLong "SaleRounds$Finder" (88 : Nat) (12345 : Int64)) ∈ wsG := tw3 206 rfl rfl
theorem wd776 : (Jvm.Cond.constantLong "SaleRounds$Finder" (90 : Nat) (2147483647 : Int64)) ∈ wsG := tw3 207 rfl rfl
theorem wd777 : (Jvm.Cond.constantLong "SaleRounds$Finder" (92 : Nat) (65536 : Int64)) ∈ wsG := tw3 208 rfl rfl
theorem wd778 : (Jvm.Cond.methodLink "SaleRounds" (237 : Nat) ({ cls := "SaleRounds$Finder", name := "search", desc := "(II)I" } : Jvm.MethodName)) ∈ wsG := tw3 209 rfl rfl
theorem wd779 : (Jvm.Cond.methodLink "SaleRoundsLaw" (92 : Nat) ({ cls := "SaleRounds", name := "signs", desc := "(IIII)I" } : Jvm.MethodName)) ∈ wsG := tw3 210 rfl rfl
theorem wd780 : (Jvm.Cond.instanceMethod ({ cls := "SaleRounds", name := "signs", desc := "(IIII)I" } : Jvm.MethodName)) ∈ wsG := tw3 211 rfl rfl
theorem wd781 : (Jvm.Cond.selects "SaleRounds" ({ cls := "SaleRounds", name := "signs", desc := "(IIII)I" } : Jvm.MethodName) ({ cls := "SaleRounds", name := "signs", desc := "(IIII)I" } : Jvm.MethodName)) ∈ wsG := tw3 212 rfl rfl
theorem wd782 : (Jvm.Cond.code ({ cls := "SaleRounds", name := "signs", desc := "(IIII)I" } : Jvm.MethodName) prog_1_method_17_code (6 : Nat) (Option.some Jvm.ClassFile.FieldType.int)) ∈ wsG := tw3 213 rfl rfl
theorem wd783 : (Jvm.Cond.methodLink "SaleRounds" (240 : Nat) ({ cls := "SaleRounds", name := "signBits", desc := "(III)I" } : Jvm.MethodName)) ∈ wsG := tw3 214 rfl rfl
theorem wd785 : (Jvm.Cond.instanceMethod ({ cls := "SaleRounds", name := "signBits", desc := "(III)I" } : Jvm.MethodName)) ∈ wsG := tw3 216 rfl rfl
theorem wd786 : (Jvm.Cond.code ({ cls := "SaleRounds", name := "signBits", desc := "(III)I" } : Jvm.MethodName) prog_1_method_31_code (5 : Nat) (Option.some Jvm.ClassFile.FieldType.int)) ∈ wsG := tw3 217 rfl rfl
theorem wd787 : (Jvm.Cond.methodLink "SaleRounds" (284 : Nat) ({ cls := "SaleRounds$Sales", name := "soldBelow", desc := "(I)Z" } : Jvm.MethodName)) ∈ wsG := tw3 218 rfl rfl
theorem wd788 : (Jvm.Cond.instanceMethod ({ cls := "SaleRounds$Sales", name := "soldBelow", desc := "(I)Z" } : Jvm.MethodName)) ∈ wsG := tw3 219 rfl rfl
theorem wd789 : (Jvm.Cond.selects "SaleRounds$Sales" ({ cls := "SaleRounds$Sales", name := "soldBelow", desc := "(I)Z" } : Jvm.MethodName) ({ cls := "SaleRounds$Sales", name := "soldBelow", desc := "(I)Z" } : Jvm.MethodName)) ∈ wsG := tw3 220 rfl rfl
theorem wd790 : (Jvm.Cond.code ({ cls := "SaleRounds$Sales", name := "soldBelow", desc := "(I)Z" } : Jvm.MethodName) prog_6_method_6_code (3 : Nat) (Option.some Jvm.ClassFile.FieldType.boolean)) ∈ wsG := tw3 221 rfl rfl
theorem wd791 : (Jvm.Cond.methodLink "SaleRounds$Sales" (48 : Nat) ({ cls := "SaleRounds$Sales", name := "boughtDearer", desc := "(II)Z" } : Jvm.MethodName)) ∈ wsG := tw3 222 rfl rfl
theorem wd793 : (Jvm.Cond.instanceMethod ({ cls := "SaleRounds$Sales", name := "boughtDearer", desc := "(II)Z" } : Jvm.MethodName)) ∈ wsG := tw3 224 rfl rfl
theorem wd794 : (Jvm.Cond.code ({ cls := "SaleRounds$Sales", name := "boughtDearer", desc := "(II)Z" } : Jvm.MethodName) prog_6_method_7_code (5 : Nat) (Option.some Jvm.ClassFile.FieldType.boolean)) ∈ wsG := tw3 225 rfl rfl
theorem wd795 : (Jvm.Cond.methodLink "SaleRounds" (287 : Nat) ({ cls := "SaleRounds$Sales", name := "buyersFrom", desc := "(I)I" } : Jvm.MethodName)) ∈ wsG := tw3 226 rfl rfl
theorem wd796 : (Jvm.Cond.instanceMethod ({ cls := "SaleRounds$Sales", name := "buyersFrom", desc := "(I)I" } : Jvm.MethodName)) ∈ wsG := tw3 227 rfl rfl
theorem wd797 : (Jvm.Cond.selects "SaleRounds$Sales" ({ cls := "SaleRounds$Sales", name := "buyersFrom", desc := "(I)I" } : Jvm.MethodName) ({ cls := "SaleRounds$Sales", name := "buyersFrom", desc := "(I)I" } : Jvm.MethodName)) ∈ wsG := tw3 228 rfl rfl
theorem wd798 : (Jvm.Cond.code ({ cls := "SaleRounds$Sales", name := "buyersFrom", desc := "(I)I" } : Jvm.MethodName) prog_6_method_8_code (4 : Nat) (Option.some Jvm.ClassFile.FieldType.int)) ∈ wsG := tw3 229 rfl rfl
theorem wd799 : (Jvm.Cond.methodLink "SaleRounds" (290 : Nat) ({ cls := "SaleRounds$Sales", name := "boughtOnlyFrom", desc := "(II)Z" } : Jvm.MethodName)) ∈ wsG := tw3 230 rfl rfl
theorem wd800 : (Jvm.Cond.instanceMethod ({ cls := "SaleRounds$Sales", name := "boughtOnlyFrom", desc := "(II)Z" } : Jvm.MethodName)) ∈ wsG := tw3 231 rfl rfl
theorem wd801 : (Jvm.Cond.selects "SaleRounds$Sales" ({ cls := "SaleRounds$Sales", name := "boughtOnlyFrom", desc := "(II)Z" } : Jvm.MethodName) ({ cls := "SaleRounds$Sales", name := "boughtOnlyFrom", desc := "(II)Z" } : Jvm.MethodName)) ∈ wsG := tw3 232 rfl rfl
theorem wd802 : (Jvm.Cond.code ({ cls := "SaleRounds$Sales", name := "boughtOnlyFrom", desc := "(II)Z" } : Jvm.MethodName) prog_6_method_9_code (5 : Nat) (Option.some Jvm.ClassFile.FieldType.boolean)) ∈ wsG := tw3 233 rfl rfl
theorem wd803 : (Jvm.Cond.methodLink "SaleRounds" (293 : Nat) ({ cls := "SaleRounds", name := "roundsWith", desc := "(II)I" } : Jvm.MethodName)) ∈ wsG := tw3 234 rfl rfl
theorem wd805 : (Jvm.Cond.instanceMethod ({ cls := "SaleRounds", name := "roundsWith", desc := "(II)I" } : Jvm.MethodName)) ∈ wsG := tw3 236 rfl rfl
theorem wd806 : (Jvm.Cond.code ({ cls := "SaleRounds", name := "roundsWith", desc := "(II)I" } : Jvm.MethodName) prog_1_method_32_code (5 : Nat) (Option.some Jvm.ClassFile.FieldType.int)) ∈ wsG := tw3 237 rfl rfl
theorem wd807 : (Jvm.Cond.methodLink "SaleRounds" (296 : Nat) ({ cls := "SaleRounds$Book", name := "partners", desc := "(I)I" } : Jvm.MethodName)) ∈ wsG := tw3 238 rfl rfl
theorem wd808 : (Jvm.Cond.instanceMethod ({ cls := "SaleRounds$Book", name := "partners", desc := "(I)I" } : Jvm.MethodName)) ∈ wsG := tw3 239 rfl rfl
theorem wd809 : (Jvm.Cond.selects "SaleRounds$Book" ({ cls := "SaleRounds$Book", name := "partners", desc := "(I)I" } : Jvm.MethodName) ({ cls := "SaleRounds$Book", name := "partners", desc := "(I)I" } : Jvm.MethodName)) ∈ wsG := tw4 0 rfl rfl
theorem wd810 : (Jvm.Cond.code ({ cls := "SaleRounds$Book", name := "partners", desc := "(I)I" } : Jvm.MethodName) prog_2_method_8_code (4 : Nat) (Option.some Jvm.ClassFile.FieldType.int)) ∈ wsG := tw4 1 rfl rfl
theorem wd811 : (Jvm.Cond.methodLink "SaleRoundsLaw" (97 : Nat) ({ cls := "SaleRounds", name := "knew", desc := "(IIIII)I" } : Jvm.MethodName)) ∈ wsG := tw4 2 rfl rfl
theorem wd812 : (Jvm.Cond.instanceMethod ({ cls := "SaleRounds", name := "knew", desc := "(IIIII)I" } : Jvm.MethodName)) ∈ wsG := tw4 3 rfl rfl
theorem wd813 : (Jvm.Cond.selects "SaleRounds" ({ cls := "SaleRounds", name := "knew", desc := "(IIIII)I" } : Jvm.MethodName) ({ cls := "SaleRounds", name := "knew", desc := "(IIIII)I" } : Jvm.MethodName)) ∈ wsG := tw4 4 rfl rfl
theorem wd814 : (Jvm.Cond.code ({ cls := "SaleRounds", name := "knew", desc := "(IIIII)I" } : Jvm.MethodName) prog_1_method_18_code (12 : Nat) (Option.some Jvm.ClassFile.FieldType.int)) ∈ wsG := tw4 5 rfl rfl
theorem wd815 : (Jvm.Cond.methodLink "SaleRoundsLaw" (101 : Nat) ({ cls := "SaleRounds", name := "hands", desc := "()I" } : Jvm.MethodName)) ∈ wsG := tw4 6 rfl rfl
theorem wd816 : (Jvm.Cond.instanceMethod ({ cls := "SaleRounds", name := "hands", desc := "()I" } : Jvm.MethodName)) ∈ wsG := tw4 7 rfl rfl
theorem wd817 : (Jvm.Cond.selects "SaleRounds" ({ cls := "SaleRounds", name := "hands", desc := "()I" } : Jvm.MethodName) ({ cls := "SaleRounds", name := "hands", desc := "()I" } : Jvm.MethodName)) ∈ wsG := tw4 8 rfl rfl
theorem wd818 : (Jvm.Cond.code ({ cls := "SaleRounds", name := "hands", desc := "()I" } : Jvm.MethodName) prog_1_method_19_code (3 : Nat) (Option.some Jvm.ClassFile.FieldType.int)) ∈ wsG := tw4 9 rfl rfl
theorem wd819 : (Jvm.Cond.methodLink "SaleRoundsLaw" (105 : Nat) ({ cls := "SaleRounds", name := "lacking", desc := "(I)I" } : Jvm.MethodName)) ∈ wsG := tw4 10 rfl rfl
theorem wd820 : (Jvm.Cond.instanceMethod ({ cls := "SaleRounds", name := "lacking", desc := "(I)I" } : Jvm.MethodName)) ∈ wsG := tw4 11 rfl rfl
theorem wd821 : (Jvm.Cond.selects "SaleRounds" ({ cls := "SaleRounds", name := "lacking", desc := "(I)I" } : Jvm.MethodName) ({ cls := "SaleRounds", name := "lacking", desc := "(I)I" } : Jvm.MethodName)) ∈ wsG := tw4 12 rfl rfl
theorem wd822 : (Jvm.Cond.code ({ cls := "SaleRounds", name := "lacking", desc := "(I)I" } : Jvm.MethodName) prog_1_method_20_code (2 : Nat) (Option.some Jvm.ClassFile.FieldType.int)) ∈ wsG := tw4 13 rfl rfl
theorem wd823 : (Jvm.Cond.methodLink "SaleRounds" (244 : Nat) ({ cls := "SaleRounds$Sales", name := "gapsOf", desc := "(I)I" } : Jvm.MethodName)) ∈ wsG := tw4 14 rfl rfl
theorem wd824 : (Jvm.Cond.instanceMethod ({ cls := "SaleRounds$Sales", name := "gapsOf", desc := "(I)I" } : Jvm.MethodName)) ∈ wsG := tw4 15 rfl rfl
theorem wd825 : (Jvm.Cond.selects "SaleRounds$Sales" ({ cls := "SaleRounds$Sales", name := "gapsOf", desc := "(I)I" } : Jvm.MethodName) ({ cls := "SaleRounds$Sales", name := "gapsOf", desc := "(I)I" } : Jvm.MethodName)) ∈ wsG := tw4 16 rfl rfl
theorem wd826 : (Jvm.Cond.code ({ cls := "SaleRounds$Sales", name := "gapsOf", desc := "(I)I" } : Jvm.MethodName) prog_6_method_10_code (6 : Nat) (Option.some Jvm.ClassFile.FieldType.int)) ∈ wsG := tw4 17 rfl rfl
theorem wd827 : (Jvm.Cond.methodLink "SaleRounds$Sales" (52 : Nat) ({ cls := "SaleRounds$Sales", name := "nextOf", desc := "(II)I" } : Jvm.MethodName)) ∈ wsG := tw4 18 rfl rfl
theorem wd829 : (Jvm.Cond.instanceMethod ({ cls := "SaleRounds$Sales", name := "nextOf", desc := "(II)I" } : Jvm.MethodName)) ∈ wsG := tw4 20 rfl rfl
theorem wd830 : (Jvm.Cond.code ({ cls := "SaleRounds$Sales", name := "nextOf", desc := "(II)I" } : Jvm.MethodName) prog_6_method_11_code (6 : Nat) (Option.some Jvm.ClassFile.FieldType.int)) ∈ wsG := tw4 21 rfl rfl
theorem wd831 : (Jvm.Cond.methodLink "SaleRounds$Sales" (56 : Nat) ({ cls := "SaleRounds$Sales", name := "isBefore", desc := "(II)Z" } : Jvm.MethodName)) ∈ wsG := tw4 22 rfl rfl
theorem wd833 : (Jvm.Cond.instanceMethod ({ cls := "SaleRounds$Sales", name := "isBefore", desc := "(II)Z" } : Jvm.MethodName)) ∈ wsG := tw4 24 rfl rfl
theorem wd834 : (Jvm.Cond.code ({ cls := "SaleRounds$Sales", name := "isBefore", desc := "(II)Z" } : Jvm.MethodName) prog_6_method_12_code (3 : Nat) (Option.some Jvm.ClassFile.FieldType.boolean)) ∈ wsG := tw4 25 rfl rfl
theorem wd835 : (Jvm.Cond.methodLink "SaleRoundsLaw" (109 : Nat) ({ cls := "SaleRounds", name := "stop", desc := "(I)I" } : Jvm.MethodName)) ∈ wsG := tw4 26 rfl rfl
theorem wd836 : (Jvm.Cond.instanceMethod ({ cls := "SaleRounds", name := "stop", desc := "(I)I" } : Jvm.MethodName)) ∈ wsG := tw4 27 rfl rfl
theorem wd837 : (Jvm.Cond.selects "SaleRounds" ({ cls := "SaleRounds", name := "stop", desc := "(I)I" } : Jvm.MethodName) ({ cls := "SaleRounds", name := "stop", desc := "(I)I" } : Jvm.MethodName)) ∈ wsG := tw4 28 rfl rfl
theorem wd838 : (Jvm.Cond.code ({ cls := "SaleRounds", name := "stop", desc := "(I)I" } : Jvm.MethodName) prog_1_method_21_code (2 : Nat) (Option.some Jvm.ClassFile.FieldType.int)) ∈ wsG := tw4 29 rfl rfl
theorem wd839 : (Jvm.Cond.methodLink "SaleRounds" (247 : Nat) ({ cls := "SaleRounds", name := "areBits", desc := "(II)Z" } : Jvm.MethodName)) ∈ wsG := tw4 30 rfl rfl
theorem wd840 : (Jvm.Cond.static ({ cls := "SaleRounds", name := "areBits", desc := "(II)Z" } : Jvm.MethodName)) ∈ wsG := tw4 31 rfl rfl
theorem wd841 : (Jvm.Cond.code ({ cls := "SaleRounds", name := "areBits", desc := "(II)Z" } : Jvm.MethodName) prog_1_method_28_code (2 : Nat) (Option.some Jvm.ClassFile.FieldType.boolean)) ∈ wsG := tw4 32 rfl rfl
theorem wd842 : (Jvm.Cond.methodLink "SaleRounds" (251 : Nat) ({ cls := "java/lang/Integer", name := "bitCount", desc := "(I)I" } : Jvm.MethodName)) ∈ wsG := tw4 33 rfl rfl
theorem wd843 : (Jvm.Cond.static ({ cls := "java/lang/Integer", name := "bitCount", desc := "(I)I" } : Jvm.MethodName)) ∈ wsG := tw4 34 rfl rfl
theorem wd844 : (Jvm.Cond.code ({ cls := "java/lang/Integer", name := "bitCount", desc := "(I)I" } : Jvm.MethodName) prog_15_method_49_code (1 : Nat) (Option.some Jvm.ClassFile.FieldType.int)) ∈ wsG := tw4 35 rfl rfl
theorem wd845 : (Jvm.Cond.constant "java/lang/Integer" (265 : Nat) (1431655765 : Int32)) ∈ wsG := tw4 36 rfl rfl
theorem wd846 : (Jvm.Cond.constant "java/lang/Integer" (266 : Nat) (858993459 : Int32)) ∈ wsG := tw4 37 rfl rfl
theorem wd847 : (Jvm.Cond.constant "java/lang/Integer" (267 : Nat) (252645135 : Int32)) ∈ wsG := tw4 38 rfl rfl
theorem wd848 : (Jvm.Cond.methodLink "SaleRoundsLaw" (113 : Nat) ({ cls := "SaleRounds", name := "fewest", desc := "(IIIJ)I" } : Jvm.MethodName)) ∈ wsG := tw4 39 rfl rfl
theorem wd849 : (Jvm.Cond.instanceMethod ({ cls := "SaleRounds", name := "fewest", desc := "(IIIJ)I" } : Jvm.MethodName)) ∈ wsG := tw4 40 rfl rfl
theorem wd850 : (Jvm.Cond.selects "SaleRounds" ({ cls := "SaleRounds", name := "fewest", desc := "(IIIJ)I" } : Jvm.MethodName) ({ cls := "SaleRounds", name := "fewest", desc := "(IIIJ)I" } : Jvm.MethodName)) ∈ wsG := tw4 41 rfl rfl
theorem wd851 : (Jvm.Cond.code ({ cls := "SaleRounds", name := "fewest", desc := "(IIIJ)I" } : Jvm.MethodName) prog_1_method_22_code (11 : Nat) (Option.some Jvm.ClassFile.FieldType.int)) ∈ wsG := tw4 42 rfl rfl
theorem wd852 : (Jvm.Cond.methodLink "SaleRounds" (254 : Nat) ({ cls := "SaleRounds", name := "keepWorthy", desc := "(I)I" } : Jvm.MethodName)) ∈ wsG := tw4 43 rfl rfl
theorem wd854 : (Jvm.Cond.instanceMethod ({ cls := "SaleRounds", name := "keepWorthy", desc := "(I)I" } : Jvm.MethodName)) ∈ wsG := tw4 45 rfl rfl
theorem wd855 : (Jvm.Cond.code ({ cls := "SaleRounds", name := "keepWorthy", desc := "(I)I" } : Jvm.MethodName) prog_1_method_33_code (6 : Nat) (Option.some Jvm.ClassFile.FieldType.int)) ∈ wsG := tw4 46 rfl rfl
theorem wd856 : (Jvm.Cond.methodLink "SaleRounds" (257 : Nat) ({ cls := "SaleRounds", name := "leftIsAtMost", desc := "(IIJ)Z" } : Jvm.MethodName)) ∈ wsG := tw4 47 rfl rfl
theorem wd858 : (Jvm.Cond.instanceMethod ({ cls := "SaleRounds", name := "leftIsAtMost", desc := "(IIJ)Z" } : Jvm.MethodName)) ∈ wsG := tw4 49 rfl rfl
theorem wd859 : (Jvm.Cond.code ({ cls := "SaleRounds", name := "leftIsAtMost", desc := "(IIJ)Z" } : Jvm.MethodName) prog_1_method_34_code (8 : Nat) (Option.some Jvm.ClassFile.FieldType.boolean)) ∈ wsG := tw4 50 rfl rfl
theorem wd860 : (Jvm.Cond.methodLink "SaleRoundsLaw" (118 : Nat) ({ cls := "SaleRounds", name := "rule", desc := "(I)I" } : Jvm.MethodName)) ∈ wsG := tw4 51 rfl rfl
theorem wd861 : (Jvm.Cond.instanceMethod ({ cls := "SaleRounds", name := "rule", desc := "(I)I" } : Jvm.MethodName)) ∈ wsG := tw4 52 rfl rfl
theorem wd862 : (Jvm.Cond.selects "SaleRounds" ({ cls := "SaleRounds", name := "rule", desc := "(I)I" } : Jvm.MethodName) ({ cls := "SaleRounds", name := "rule", desc := "(I)I" } : Jvm.MethodName)) ∈ wsG := tw4 53 rfl rfl
theorem wd863 : (Jvm.Cond.code ({ cls := "SaleRounds", name := "rule", desc := "(I)I" } : Jvm.MethodName) prog_1_method_23_code (2 : Nat) (Option.some Jvm.ClassFile.FieldType.int)) ∈ wsG := tw4 54 rfl rfl
theorem wd864 : (Jvm.Cond.methodLink "SaleRoundsLaw" (122 : Nat) ({ cls := "SaleRounds", name := "burden", desc := "(I)I" } : Jvm.MethodName)) ∈ wsG := tw4 55 rfl rfl
theorem wd865 : (Jvm.Cond.instanceMethod ({ cls := "SaleRounds", name := "burden", desc := "(I)I" } : Jvm.MethodName)) ∈ wsG := tw4 56 rfl rfl
theorem wd866 : (Jvm.Cond.selects "SaleRounds" ({ cls := "SaleRounds", name := "burden", desc := "(I)I" } : Jvm.MethodName) ({ cls := "SaleRounds", name := "burden", desc := "(I)I" } : Jvm.MethodName)) ∈ wsG := tw4 57 rfl rfl
theorem wd867 : (Jvm.Cond.code ({ cls := "SaleRounds", name := "burden", desc := "(I)I" } : Jvm.MethodName) prog_1_method_24_code (2 : Nat) (Option.some Jvm.ClassFile.FieldType.int)) ∈ wsG := tw4 58 rfl rfl
theorem wd868 : (Jvm.Cond.methodLink "SaleRounds" (261 : Nat) ({ cls := "SaleRounds$Book", name := "honestSales", desc := "(II)I" } : Jvm.MethodName)) ∈ wsG := tw4 59 rfl rfl
theorem wd869 : (Jvm.Cond.instanceMethod ({ cls := "SaleRounds$Book", name := "honestSales", desc := "(II)I" } : Jvm.MethodName)) ∈ wsG := tw4 60 rfl rfl
theorem wd870 : (Jvm.Cond.selects "SaleRounds$Book" ({ cls := "SaleRounds$Book", name := "honestSales", desc := "(II)I" } : Jvm.MethodName) ({ cls := "SaleRounds$Book", name := "honestSales", desc := "(II)I" } : Jvm.MethodName)) ∈ wsG := tw4 61 rfl rfl
theorem wd871 : (Jvm.Cond.code ({ cls := "SaleRounds$Book", name := "honestSales", desc := "(II)I" } : Jvm.MethodName) prog_2_method_15_code (6 : Nat) (Option.some Jvm.ClassFile.FieldType.int)) ∈ wsG := tw4 62 rfl rfl
theorem wd872 : (Jvm.Cond.methodLink "SaleRounds$Book" (111 : Nat) ({ cls := "SaleRounds$Book", name := "firmsIn", desc := "(I)I" } : Jvm.MethodName)) ∈ wsG := tw4 63 rfl rfl
theorem wd873 : (Jvm.Cond.instanceMethod ({ cls := "SaleRounds$Book", name := "firmsIn", desc := "(I)I" } : Jvm.MethodName)) ∈ wsG := tw4 64 rfl rfl
theorem wd874 : (Jvm.Cond.selects "SaleRounds$Book" ({ cls := "SaleRounds$Book", name := "firmsIn", desc := "(I)I" } : Jvm.MethodName) ({ cls := "SaleRounds$Book", name := "firmsIn", desc := "(I)I" } : Jvm.MethodName)) ∈ wsG := tw4 65 rfl rfl
theorem wd875 : (Jvm.Cond.code ({ cls := "SaleRounds$Book", name := "firmsIn", desc := "(I)I" } : Jvm.MethodName) prog_2_method_9_code (4 : Nat) (Option.some Jvm.ClassFile.FieldType.int)) ∈ wsG := tw4 66 rfl rfl
theorem wd876 : (Jvm.Cond.methodLink "SaleRoundsLaw" (126 : Nat) ({ cls := "SaleRounds", name := "starve", desc := "(IIIII)J" } : Jvm.MethodName)) ∈ wsG := tw4 67 rfl rfl
theorem wd877 : (Jvm.Cond.instanceMethod ({ cls := "SaleRounds", name := "starve", desc := "(IIIII)J" } : Jvm.MethodName)) ∈ wsG := tw4 68 rfl rfl
theorem wd878 : (Jvm.Cond.selects "SaleRounds" ({ cls := "SaleRounds", name := "starve", desc := "(IIIII)J" } : Jvm.MethodName) ({ cls := "SaleRounds", name := "starve", desc := "(IIIII)J" } : Jvm.MethodName)) ∈ wsG := tw4 69 rfl rfl
theorem wd879 : (Jvm.Cond.code ({ cls := "SaleRounds", name := "starve", desc := "(IIIII)J" } : Jvm.MethodName) prog_1_method_25_code (8 : Nat) (Option.some Jvm.ClassFile.FieldType.long)) ∈ wsG := tw4 70 rfl rfl
theorem wd880 : (Jvm.Cond.constantLong "SaleRounds" (264 : Nat) (-1 : Int64)) ∈ wsG := tw4 71 rfl rfl
theorem wd881 : (Jvm.Cond.methodLink "SaleRounds" (266 : Nat) ({ cls := "SaleRounds", name := "weighLands", desc := "(I)V" } : Jvm.MethodName)) ∈ wsG := tw4 72 rfl rfl
theorem wd883 : (Jvm.Cond.instanceMethod ({ cls := "SaleRounds", name := "weighLands", desc := "(I)V" } : Jvm.MethodName)) ∈ wsG := tw4 74 rfl rfl
theorem wd884 : (Jvm.Cond.code ({ cls := "SaleRounds", name := "weighLands", desc := "(I)V" } : Jvm.MethodName) prog_1_method_35_code (6 : Nat) (Option.none : Option Jvm.ClassFile.FieldType)) ∈ wsG := tw4 75 rfl rfl
theorem wd885 : (Jvm.Cond.methodLink "SaleRounds" (299 : Nat) ({ cls := "SaleRounds$Book", name := "firmsIn", desc := "(I)I" } : Jvm.MethodName)) ∈ wsG := tw4 76 rfl rfl
theorem wd886 : (Jvm.Cond.methodLink "SaleRounds" (269 : Nat) ({ cls := "SaleRounds", name := "bestLands", desc := "(I)I" } : Jvm.MethodName)) ∈ wsG := tw4 77 rfl rfl
theorem wd888 : (Jvm.Cond.instanceMethod ({ cls := "SaleRounds", name := "bestLands", desc := "(I)I" } : Jvm.MethodName)) ∈ wsG := tw4 79 rfl rfl
theorem wd889 : (Jvm.Cond.code ({ cls := "SaleRounds", name := "bestLands", desc := "(I)I" } : Jvm.MethodName) prog_1_method_36_code (10 : Nat) (Option.some Jvm.ClassFile.FieldType.int)) ∈ wsG := tw4 80 rfl rfl
theorem wd890 : (Jvm.Cond.methodLink "SaleRounds" (272 : Nat) ({ cls := "SaleRounds", name := "takesOutside", desc := "(I)J" } : Jvm.MethodName)) ∈ wsG := tw4 81 rfl rfl
theorem wd892 : (Jvm.Cond.instanceMethod ({ cls := "SaleRounds", name := "takesOutside", desc := "(I)J" } : Jvm.MethodName)) ∈ wsG := tw4 83 rfl rfl
theorem wd893 : (Jvm.Cond.code ({ cls := "SaleRounds", name := "takesOutside", desc := "(I)J" } : Jvm.MethodName) prog_1_method_37_code (5 : Nat) (Option.some Jvm.ClassFile.FieldType.long)) ∈ wsG := tw4 84 rfl rfl
theorem wd894 : (Jvm.Cond.methodLink "SaleRounds" (276 : Nat) ({ cls := "SaleRounds", name := "burdenInside", desc := "(I)I" } : Jvm.MethodName)) ∈ wsG := tw4 85 rfl rfl
theorem wd896 : (Jvm.Cond.instanceMethod ({ cls := "SaleRounds", name := "burdenInside", desc := "(I)I" } : Jvm.MethodName)) ∈ wsG := tw4 87 rfl rfl
theorem wd897 : (Jvm.Cond.code ({ cls := "SaleRounds", name := "burdenInside", desc := "(I)I" } : Jvm.MethodName) prog_1_method_38_code (4 : Nat) (Option.some Jvm.ClassFile.FieldType.int)) ∈ wsG := tw4 88 rfl rfl
theorem wd898 : (Jvm.Cond.methodLink "SaleRoundsLaw" (131 : Nat) ({ cls := "SaleRounds", name := "count", desc := "(I)I" } : Jvm.MethodName)) ∈ wsG := tw4 89 rfl rfl
theorem wd899 : (Jvm.Cond.instanceMethod ({ cls := "SaleRounds", name := "count", desc := "(I)I" } : Jvm.MethodName)) ∈ wsG := tw4 90 rfl rfl
theorem wd900 : (Jvm.Cond.selects "SaleRounds" ({ cls := "SaleRounds", name := "count", desc := "(I)I" } : Jvm.MethodName) ({ cls := "SaleRounds", name := "count", desc := "(I)I" } : Jvm.MethodName)) ∈ wsG := tw4 91 rfl rfl
theorem wd901 : (Jvm.Cond.code ({ cls := "SaleRounds", name := "count", desc := "(I)I" } : Jvm.MethodName) prog_1_method_26_code (2 : Nat) (Option.some Jvm.ClassFile.FieldType.int)) ∈ wsG := tw4 92 rfl rfl
theorem wd910 : (Jvm.Cond.code ({ cls := "SaleRounds", name := "look", desc := "(II)I" } : Jvm.MethodName) prog_1_method_6_code (4 : Nat) (Option.some Jvm.ClassFile.FieldType.int)) ∈ wsG := tw4 101 rfl rfl
theorem wd977 : (Jvm.Cond.methodLink "SaleRounds" (146 : Nat) ({ cls := "SaleRounds$Book", name := "taxOf", desc := "(II)I" } : Jvm.MethodName)) ∈ wsG := tw4 168 rfl rfl
theorem wd1000 : (Jvm.Cond.fieldLink "SaleRoundsModel" (102 : Nat) "SaleRoundsModel" "thrown" "I") ∈ wsG := tw4 191 rfl rfl
theorem wd1001 : (Jvm.Cond.fieldLink "SaleRoundsModel" (9 : Nat) "SaleRoundsModel" "tape" "[I") ∈ wsG := tw4 192 rfl rfl
theorem wd1002 : (Jvm.Cond.fieldLink "SaleRoundsModel" (105 : Nat) "SaleRoundsModel" "taped" "I") ∈ wsG := tw4 193 rfl rfl
theorem wd1003 : (Jvm.Cond.fieldLink "SaleRoundsModel" (217 : Nat) "SaleRoundsModel" "lands" "I") ∈ wsG := tw4 194 rfl rfl
theorem wd1004 : (Jvm.Cond.fieldLink "SaleRoundsModel" (220 : Nat) "SaleRoundsModel" "goods" "I") ∈ wsG := tw4 195 rfl rfl
theorem wd1005 : (Jvm.Cond.fieldLink "SaleRoundsModel" (223 : Nat) "SaleRoundsModel" "firms" "I") ∈ wsG := tw4 196 rfl rfl
theorem wd1006 : (Jvm.Cond.fieldLink "SaleRoundsModel" (226 : Nat) "SaleRoundsModel" "sales" "I") ∈ wsG := tw4 197 rfl rfl
theorem wd1007 : (Jvm.Cond.fieldLink "SaleRoundsModel" (229 : Nat) "SaleRoundsModel" "booked" "I") ∈ wsG := tw4 198 rfl rfl
theorem wd1008 : (Jvm.Cond.fieldLink "SaleRoundsModel" (15 : Nat) "SaleRoundsModel" "landName" "[I") ∈ wsG := tw4 199 rfl rfl
theorem wd1009 : (Jvm.Cond.fieldLink "SaleRoundsModel" (18 : Nat) "SaleRoundsModel" "tax" "[I") ∈ wsG := tw4 200 rfl rfl
theorem wd1010 : (Jvm.Cond.fieldLink "SaleRoundsModel" (21 : Nat) "SaleRoundsModel" "goodName" "[I") ∈ wsG := tw4 201 rfl rfl
theorem wd1011 : (Jvm.Cond.fieldLink "SaleRoundsModel" (24 : Nat) "SaleRoundsModel" "firmName" "[I") ∈ wsG := tw4 202 rfl rfl
theorem wd1012 : (Jvm.Cond.fieldLink "SaleRoundsModel" (27 : Nat) "SaleRoundsModel" "landOf" "[I") ∈ wsG := tw4 203 rfl rfl
theorem wd1013 : (Jvm.Cond.fieldLink "SaleRoundsModel" (30 : Nat) "SaleRoundsModel" "since" "[I") ∈ wsG := tw4 204 rfl rfl
theorem wd1014 : (Jvm.Cond.fieldLink "SaleRoundsModel" (33 : Nat) "SaleRoundsModel" "hand" "[I") ∈ wsG := tw4 205 rfl rfl
theorem wd1015 : (Jvm.Cond.fieldLink "SaleRoundsModel" (36 : Nat) "SaleRoundsModel" "room" "[I") ∈ wsG := tw4 206 rfl rfl
theorem wd1016 : (Jvm.Cond.fieldLink "SaleRoundsModel" (39 : Nat) "SaleRoundsModel" "paid" "[I") ∈ wsG := tw4 207 rfl rfl
theorem wd1017 : (Jvm.Cond.fieldLink "SaleRoundsModel" (42 : Nat) "SaleRoundsModel" "isPaid" "[Z") ∈ wsG := tw4 208 rfl rfl
theorem wd1018 : (Jvm.Cond.fieldLink "SaleRoundsModel" (46 : Nat) "SaleRoundsModel" "from" "[I") ∈ wsG := tw4 209 rfl rfl
theorem wd1019 : (Jvm.Cond.fieldLink "SaleRoundsModel" (49 : Nat) "SaleRoundsModel" "to" "[I") ∈ wsG := tw4 210 rfl rfl
theorem wd1020 : (Jvm.Cond.fieldLink "SaleRoundsModel" (52 : Nat) "SaleRoundsModel" "number" "[I") ∈ wsG := tw4 211 rfl rfl
theorem wd1021 : (Jvm.Cond.fieldLink "SaleRoundsModel" (55 : Nat) "SaleRoundsModel" "good" "[I") ∈ wsG := tw4 212 rfl rfl
theorem wd1022 : (Jvm.Cond.fieldLink "SaleRoundsModel" (58 : Nat) "SaleRoundsModel" "price" "[I") ∈ wsG := tw4 213 rfl rfl
theorem wd1023 : (Jvm.Cond.fieldLink "SaleRoundsModel" (61 : Nat) "SaleRoundsModel" "day" "[I") ∈ wsG := tw4 214 rfl rfl
theorem wd1024 : (Jvm.Cond.fieldLink "SaleRoundsModel" (64 : Nat) "SaleRoundsModel" "mark" "[I") ∈ wsG := tw4 215 rfl rfl
theorem wd1025 : (Jvm.Cond.fieldLink "SaleRoundsModel" (169 : Nat) "SaleRoundsModel" "landsNew" "I") ∈ wsG := tw4 216 rfl rfl
theorem wd1026 : (Jvm.Cond.fieldLink "SaleRoundsModel" (172 : Nat) "SaleRoundsModel" "goodsNew" "I") ∈ wsG := tw4 217 rfl rfl
theorem wd1027 : (Jvm.Cond.fieldLink "SaleRoundsModel" (175 : Nat) "SaleRoundsModel" "firmsNew" "I") ∈ wsG := tw4 218 rfl rfl
theorem wd1028 : (Jvm.Cond.fieldLink "SaleRoundsModel" (178 : Nat) "SaleRoundsModel" "salesNew" "I") ∈ wsG := tw4 219 rfl rfl
theorem wd1029 : (Jvm.Cond.fieldLink "SaleRoundsModel" (197 : Nat) "SaleRoundsModel" "lines" "I") ∈ wsG := tw4 220 rfl rfl
theorem wd1030 : (Jvm.Cond.fieldLink "SaleRoundsModel" (111 : Nat) "SaleRoundsModel" "size" "I") ∈ wsG := tw4 221 rfl rfl
theorem wd1031 : (Jvm.Cond.fieldLink "SaleRoundsModel" (108 : Nat) "SaleRoundsModel" "at" "I") ∈ wsG := tw4 222 rfl rfl
theorem wd1032 : (Jvm.Cond.fieldLink "SaleRoundsModel" (118 : Nat) "SaleRoundsModel" "place" "I") ∈ wsG := tw4 223 rfl rfl
theorem wd1033 : (Jvm.Cond.fieldLink "SaleRoundsModel" (121 : Nat) "SaleRoundsModel" "sort" "I") ∈ wsG := tw4 224 rfl rfl
theorem wd1034 : (Jvm.Cond.fieldLink "SaleRoundsModel" (131 : Nat) "SaleRoundsModel" "value" "I") ∈ wsG := tw4 225 rfl rfl
theorem wd1035 : (Jvm.Cond.fieldLink "SaleRoundsModel" (152 : Nat) "SaleRoundsModel" "fault" "I") ∈ wsG := tw4 226 rfl rfl
theorem wd1036 : (Jvm.Cond.fieldLink "SaleRoundsModel" (155 : Nat) "SaleRoundsModel" "faultPlace" "I") ∈ wsG := tw4 227 rfl rfl
theorem wd1037 : (Jvm.Cond.fieldLink "SaleRoundsModel" (211 : Nat) "SaleRoundsModel" "lastFault" "I") ∈ wsG := tw4 228 rfl rfl
theorem wd1038 : (Jvm.Cond.fieldLink "SaleRoundsModel" (67 : Nat) "SaleRoundsModel" "lastPlace" "I") ∈ wsG := tw4 229 rfl rfl
theorem wd1039 : (Jvm.Cond.fieldLink "SaleRoundsModel" (232 : Nat) "SaleRoundsModel" "stopped" "I") ∈ wsG := tw4 230 rfl rfl
theorem wd1040 : (Jvm.Cond.fieldLink "SaleRoundsModel" (235 : Nat) "SaleRoundsModel" "ruled" "I") ∈ wsG := tw4 231 rfl rfl
theorem wd1041 : (Jvm.Cond.fieldLink "SaleRoundsModel" (71 : Nat) "SaleRoundsModel" "least" "[I") ∈ wsG := tw4 232 rfl rfl
theorem wd1042 : (Jvm.Cond.fieldLink "SaleRoundsModel" (276 : Nat) "SaleRoundsModel" "rounds" "I") ∈ wsG := tw4 233 rfl rfl
theorem wd1043 : (Jvm.Cond.fieldLink "SaleRoundsModel" (74 : Nat) "SaleRoundsModel" "rowSale" "[I") ∈ wsG := tw4 234 rfl rfl
theorem wd1044 : (Jvm.Cond.fieldLink "SaleRoundsModel" (77 : Nat) "SaleRoundsModel" "rowMany" "[I") ∈ wsG := tw4 235 rfl rfl
theorem wd1045 : (Jvm.Cond.fieldLink "SaleRoundsModel" (80 : Nat) "SaleRoundsModel" "row" "[I") ∈ wsG := tw4 236 rfl rfl
theorem wd1046 : (Jvm.Cond.fieldLink "SaleRoundsModel" (83 : Nat) "SaleRoundsModel" "goes" "[I") ∈ wsG := tw4 237 rfl rfl
theorem wd1047 : (Jvm.Cond.fieldLink "SaleRoundsModel" (272 : Nat) "SaleRoundsModel" "isSpent" "Z") ∈ wsG := tw4 238 rfl rfl
theorem wd1048 : (Jvm.Cond.fieldLink "SaleRoundsModel" (269 : Nat) "SaleRoundsModel" "byWay" "I") ∈ wsG := tw4 239 rfl rfl
theorem wd1049 : (Jvm.Cond.fieldLink "SaleRoundsModel" (279 : Nat) "SaleRoundsModel" "most" "I") ∈ wsG := tw5 0 rfl rfl
theorem wd1050 : (Jvm.Cond.fieldLink "SaleRoundsModel" (285 : Nat) "SaleRoundsModel" "within" "I") ∈ wsG := tw5 1 rfl rfl
theorem wd1051 : (Jvm.Cond.fieldLink "SaleRoundsModel" (86 : Nat) "SaleRoundsModel" "left" "[I") ∈ wsG := tw5 2 rfl rfl
theorem wd1052 : (Jvm.Cond.fieldLink "SaleRoundsModel" (89 : Nat) "SaleRoundsModel" "cameBy" "[I") ∈ wsG := tw5 3 rfl rfl
theorem wd1053 : (Jvm.Cond.fieldLink "SaleRoundsModel" (92 : Nat) "SaleRoundsModel" "line" "[I") ∈ wsG := tw5 4 rfl rfl
theorem wd1054 : (Jvm.Cond.fieldLink "SaleRoundsModel" (95 : Nat) "SaleRoundsModel" "roundTakes" "[J") ∈ wsG := tw5 5 rfl rfl
theorem wd1055 : (Jvm.Cond.fieldLink "SaleRoundsModel" (99 : Nat) "SaleRoundsModel" "roundFirms" "[I") ∈ wsG := tw5 6 rfl rfl
theorem wd1169 : (Jvm.Cond.methodLink "SaleRoundsLaw" (25 : Nat) ({ cls := "SaleRoundsModel", name := "feed", desc := "(IIIII)I" } : Jvm.MethodName)) ∈ wsG := tw5 120 rfl rfl
theorem wd1170 : (Jvm.Cond.instanceMethod ({ cls := "SaleRoundsModel", name := "feed", desc := "(IIIII)I" } : Jvm.MethodName)) ∈ wsG := tw5 121 rfl rfl
theorem wd1171 : (Jvm.Cond.selects "SaleRoundsModel" ({ cls := "SaleRoundsModel", name := "feed", desc := "(IIIII)I" } : Jvm.MethodName) ({ cls := "SaleRoundsModel", name := "feed", desc := "(IIIII)I" } : Jvm.MethodName)) ∈ wsG := tw5 122 rfl rfl
theorem wd1172 : (Jvm.Cond.code ({ cls := "SaleRoundsModel", name := "feed", desc := "(IIIII)I" } : Jvm.MethodName) prog_9_method_3_code (8 : Nat) (Option.some Jvm.ClassFile.FieldType.int)) ∈ wsG := tw5 123 rfl rfl
theorem wd1173 : (Jvm.Cond.methodLink "SaleRoundsLaw" (30 : Nat) ({ cls := "SaleRoundsModel", name := "book", desc := "(I)I" } : Jvm.MethodName)) ∈ wsG := tw5 124 rfl rfl
theorem wd1174 : (Jvm.Cond.instanceMethod ({ cls := "SaleRoundsModel", name := "book", desc := "(I)I" } : Jvm.MethodName)) ∈ wsG := tw5 125 rfl rfl
theorem wd1175 : (Jvm.Cond.selects "SaleRoundsModel" ({ cls := "SaleRoundsModel", name := "book", desc := "(I)I" } : Jvm.MethodName) ({ cls := "SaleRoundsModel", name := "book", desc := "(I)I" } : Jvm.MethodName)) ∈ wsG := tw5 126 rfl rfl
theorem wd1176 : (Jvm.Cond.code ({ cls := "SaleRoundsModel", name := "book", desc := "(I)I" } : Jvm.MethodName) prog_9_method_21_code (2 : Nat) (Option.some Jvm.ClassFile.FieldType.int)) ∈ wsG := tw5 127 rfl rfl
theorem wd1177 : (Jvm.Cond.methodLink "SaleRoundsModel" (162 : Nat) ({ cls := "SaleRoundsModel", name := "next", desc := "()V" } : Jvm.MethodName)) ∈ wsG := tw5 128 rfl rfl
theorem wd1179 : (Jvm.Cond.instanceMethod ({ cls := "SaleRoundsModel", name := "next", desc := "()V" } : Jvm.MethodName)) ∈ wsG := tw5 130 rfl rfl
theorem wd1180 : (Jvm.Cond.code ({ cls := "SaleRoundsModel", name := "next", desc := "()V" } : Jvm.MethodName) prog_9_method_7_code (2 : Nat) (Option.none : Option Jvm.ClassFile.FieldType)) ∈ wsG := tw5 131 rfl rfl
theorem wd1181 : (Jvm.Cond.methodLink "SaleRoundsModel" (114 : Nat) ({ cls := "SaleRoundsModel", name := "here", desc := "()I" } : Jvm.MethodName)) ∈ wsG := tw5 132 rfl rfl
theorem wd1183 : (Jvm.Cond.instanceMethod ({ cls := "SaleRoundsModel", name := "here", desc := "()I" } : Jvm.MethodName)) ∈ wsG := tw5 134 rfl rfl
theorem wd1184 : (Jvm.Cond.code ({ cls := "SaleRoundsModel", name := "here", desc := "()I" } : Jvm.MethodName) prog_9_method_4_code (1 : Nat) (Option.some Jvm.ClassFile.FieldType.int)) ∈ wsG := tw5 135 rfl rfl
theorem wd1185 : (Jvm.Cond.methodLink "SaleRoundsModel" (124 : Nat) ({ cls := "SaleRoundsModel", name := "isSmall", desc := "(I)Z" } : Jvm.MethodName)) ∈ wsG := tw5 136 rfl rfl
theorem wd1186 : (Jvm.Cond.static ({ cls := "SaleRoundsModel", name := "isSmall", desc := "(I)Z" } : Jvm.MethodName)) ∈ wsG := tw5 137 rfl rfl
theorem wd1187 : (Jvm.Cond.code ({ cls := "SaleRoundsModel", name := "isSmall", desc := "(I)Z" } : Jvm.MethodName) prog_9_method_5_code (1 : Nat) (Option.some Jvm.ClassFile.FieldType.boolean)) ∈ wsG := tw5 138 rfl rfl
theorem wd1188 : (Jvm.Cond.methodLink "SaleRoundsModel" (128 : Nat) ({ cls := "SaleRoundsModel", name := "word", desc := "()I" } : Jvm.MethodName)) ∈ wsG := tw5 139 rfl rfl
theorem wd1190 : (Jvm.Cond.instanceMethod ({ cls := "SaleRoundsModel", name := "word", desc := "()I" } : Jvm.MethodName)) ∈ wsG := tw5 141 rfl rfl
theorem wd1191 : (Jvm.Cond.code ({ cls := "SaleRoundsModel", name := "word", desc := "()I" } : Jvm.MethodName) prog_9_method_8_code (4 : Nat) (Option.some Jvm.ClassFile.FieldType.int)) ∈ wsG := tw5 142 rfl rfl
theorem wd1241 : (Jvm.Cond.methodLink "SaleRoundsModel" (134 : Nat) ({ cls := "SaleRoundsModel", name := "name", desc := "()V" } : Jvm.MethodName)) ∈ wsG := tw5 192 rfl rfl
theorem wd1243 : (Jvm.Cond.instanceMethod ({ cls := "SaleRoundsModel", name := "name", desc := "()V" } : Jvm.MethodName)) ∈ wsG := tw5 194 rfl rfl
theorem wd1244 : (Jvm.Cond.code ({ cls := "SaleRoundsModel", name := "name", desc := "()V" } : Jvm.MethodName) prog_9_method_9_code (2 : Nat) (Option.none : Option Jvm.ClassFile.FieldType)) ∈ wsG := tw5 195 rfl rfl
theorem wd1245 : (Jvm.Cond.methodLink "SaleRoundsModel" (137 : Nat) ({ cls := "SaleRoundsModel", name := "isDigit", desc := "(I)Z" } : Jvm.MethodName)) ∈ wsG := tw5 196 rfl rfl
theorem wd1246 : (Jvm.Cond.static ({ cls := "SaleRoundsModel", name := "isDigit", desc := "(I)Z" } : Jvm.MethodName)) ∈ wsG := tw5 197 rfl rfl
theorem wd1247 : (Jvm.Cond.code ({ cls := "SaleRoundsModel", name := "isDigit", desc := "(I)Z" } : Jvm.MethodName) prog_9_method_6_code (1 : Nat) (Option.some Jvm.ClassFile.FieldType.boolean)) ∈ wsG := tw5 198 rfl rfl
theorem wd1248 : (Jvm.Cond.constant "SaleRoundsModel" (140 : Nat) (999999 : Int32)) ∈ wsG := tw5 199 rfl rfl
theorem wd1249 : (Jvm.Cond.methodLink "SaleRoundsModel" (209 : Nat) ({ cls := "SaleRoundsModel", name := "line", desc := "()V" } : Jvm.MethodName)) ∈ wsG := tw5 200 rfl rfl
theorem wd1251 : (Jvm.Cond.instanceMethod ({ cls := "SaleRoundsModel", name := "line", desc := "()V" } : Jvm.MethodName)) ∈ wsG := tw5 202 rfl rfl
theorem wd1252 : (Jvm.Cond.code ({ cls := "SaleRoundsModel", name := "line", desc := "()V" } : Jvm.MethodName) prog_9_method_17_code (2 : Nat) (Option.none : Option Jvm.ClassFile.FieldType)) ∈ wsG := tw5 203 rfl rfl
theorem wd1253 : (Jvm.Cond.methodLink "SaleRoundsModel" (158 : Nat) ({ cls := "SaleRoundsModel", name := "wrong", desc := "(I)V" } : Jvm.MethodName)) ∈ wsG := tw5 204 rfl rfl
theorem wd1255 : (Jvm.Cond.instanceMethod ({ cls := "SaleRoundsModel", name := "wrong", desc := "(I)V" } : Jvm.MethodName)) ∈ wsG := tw5 206 rfl rfl
theorem wd1256 : (Jvm.Cond.code ({ cls := "SaleRoundsModel", name := "wrong", desc := "(I)V" } : Jvm.MethodName) prog_9_method_10_code (2 : Nat) (Option.none : Option Jvm.ClassFile.FieldType)) ∈ wsG := tw5 207 rfl rfl
theorem wd1257 : (Jvm.Cond.methodLink "SaleRoundsModel" (181 : Nat) ({ cls := "SaleRoundsModel", name := "fresh", desc := "([III)I" } : Jvm.MethodName)) ∈ wsG := tw5 208 rfl rfl
theorem wd1259 : (Jvm.Cond.instanceMethod ({ cls := "SaleRoundsModel", name := "fresh", desc := "([III)I" } : Jvm.MethodName)) ∈ wsG := tw5 210 rfl rfl
theorem wd1260 : (Jvm.Cond.code ({ cls := "SaleRoundsModel", name := "fresh", desc := "([III)I" } : Jvm.MethodName) prog_9_method_14_code (5 : Nat) (Option.some Jvm.ClassFile.FieldType.int)) ∈ wsG := tw5 211 rfl rfl
theorem wd1261 : (Jvm.Cond.methodLink "SaleRoundsModel" (165 : Nat) ({ cls := "SaleRoundsModel", name := "found", desc := "([IIII)I" } : Jvm.MethodName)) ∈ wsG := tw5 212 rfl rfl
theorem wd1262 : (Jvm.Cond.static ({ cls := "SaleRoundsModel", name := "found", desc := "([IIII)I" } : Jvm.MethodName)) ∈ wsG := tw5 213 rfl rfl
theorem wd1263 : (Jvm.Cond.code ({ cls := "SaleRoundsModel", name := "found", desc := "([IIII)I" } : Jvm.MethodName) prog_9_method_13_code (5 : Nat) (Option.some Jvm.ClassFile.FieldType.int)) ∈ wsG := tw5 214 rfl rfl
theorem wd1264 : (Jvm.Cond.methodLink "SaleRoundsModel" (185 : Nat) ({ cls := "SaleRoundsModel", name := "numeral", desc := "(II)I" } : Jvm.MethodName)) ∈ wsG := tw5 215 rfl rfl
theorem wd1266 : (Jvm.Cond.instanceMethod ({ cls := "SaleRoundsModel", name := "numeral", desc := "(II)I" } : Jvm.MethodName)) ∈ wsG := tw5 217 rfl rfl
theorem wd1267 : (Jvm.Cond.code ({ cls := "SaleRoundsModel", name := "numeral", desc := "(II)I" } : Jvm.MethodName) prog_9_method_12_code (4 : Nat) (Option.some Jvm.ClassFile.FieldType.int)) ∈ wsG := tw5 218 rfl rfl
theorem wd1268 : (Jvm.Cond.methodLink "SaleRoundsModel" (189 : Nat) ({ cls := "SaleRoundsModel", name := "firmLine", desc := "(I)V" } : Jvm.MethodName)) ∈ wsG := tw5 219 rfl rfl
theorem wd1270 : (Jvm.Cond.instanceMethod ({ cls := "SaleRoundsModel", name := "firmLine", desc := "(I)V" } : Jvm.MethodName)) ∈ wsG := tw5 221 rfl rfl
theorem wd1271 : (Jvm.Cond.code ({ cls := "SaleRoundsModel", name := "firmLine", desc := "(I)V" } : Jvm.MethodName) prog_9_method_18_code (4 : Nat) (Option.none : Option Jvm.ClassFile.FieldType)) ∈ wsG := tw5 222 rfl rfl
theorem wd1272 : (Jvm.Cond.methodLink "SaleRoundsModel" (200 : Nat) ({ cls := "SaleRoundsModel", name := "told", desc := "([III)I" } : Jvm.MethodName)) ∈ wsG := tw5 223 rfl rfl
theorem wd1274 : (Jvm.Cond.instanceMethod ({ cls := "SaleRoundsModel", name := "told", desc := "([III)I" } : Jvm.MethodName)) ∈ wsG := tw5 225 rfl rfl
theorem wd1275 : (Jvm.Cond.code ({ cls := "SaleRoundsModel", name := "told", desc := "([III)I" } : Jvm.MethodName) prog_9_method_15_code (4 : Nat) (Option.some Jvm.ClassFile.FieldType.int)) ∈ wsG := tw5 226 rfl rfl
theorem wd1276 : (Jvm.Cond.methodLink "SaleRoundsModel" (203 : Nat) ({ cls := "SaleRoundsModel", name := "goOn", desc := "()V" } : Jvm.MethodName)) ∈ wsG := tw5 227 rfl rfl
theorem wd1278 : (Jvm.Cond.instanceMethod ({ cls := "SaleRoundsModel", name := "goOn", desc := "()V" } : Jvm.MethodName)) ∈ wsG := tw5 229 rfl rfl
theorem wd1279 : (Jvm.Cond.code ({ cls := "SaleRoundsModel", name := "goOn", desc := "()V" } : Jvm.MethodName) prog_9_method_16_code (1 : Nat) (Option.none : Option Jvm.ClassFile.FieldType)) ∈ wsG := tw5 230 rfl rfl
theorem wd1280 : (Jvm.Cond.methodLink "SaleRoundsModel" (206 : Nat) ({ cls := "SaleRoundsModel", name := "isWord", desc := "(I)Z" } : Jvm.MethodName)) ∈ wsG := tw5 231 rfl rfl
theorem wd1282 : (Jvm.Cond.instanceMethod ({ cls := "SaleRoundsModel", name := "isWord", desc := "(I)Z" } : Jvm.MethodName)) ∈ wsG := tw5 233 rfl rfl
theorem wd1283 : (Jvm.Cond.code ({ cls := "SaleRoundsModel", name := "isWord", desc := "(I)Z" } : Jvm.MethodName) prog_9_method_11_code (2 : Nat) (Option.some Jvm.ClassFile.FieldType.boolean)) ∈ wsG := tw5 234 rfl rfl
theorem wd1284 : (Jvm.Cond.methodLink "SaleRoundsModel" (192 : Nat) ({ cls := "SaleRoundsModel", name := "sale", desc := "(I)V" } : Jvm.MethodName)) ∈ wsG := tw5 235 rfl rfl
theorem wd1286 : (Jvm.Cond.instanceMethod ({ cls := "SaleRoundsModel", name := "sale", desc := "(I)V" } : Jvm.MethodName)) ∈ wsG := tw5 237 rfl rfl
theorem wd1287 : (Jvm.Cond.code ({ cls := "SaleRoundsModel", name := "sale", desc := "(I)V" } : Jvm.MethodName) prog_9_method_19_code (2 : Nat) (Option.none : Option Jvm.ClassFile.FieldType)) ∈ wsG := tw5 238 rfl rfl
theorem wd1288 : (Jvm.Cond.methodLink "SaleRoundsModel" (195 : Nat) ({ cls := "SaleRoundsModel", name := "paid", desc := "()V" } : Jvm.MethodName)) ∈ wsG := tw5 239 rfl rfl
theorem wd1290 : (Jvm.Cond.instanceMethod ({ cls := "SaleRoundsModel", name := "paid", desc := "()V" } : Jvm.MethodName)) ∈ wsG := tw6 1 rfl rfl
theorem wd1291 : (Jvm.Cond.code ({ cls := "SaleRoundsModel", name := "paid", desc := "()V" } : Jvm.MethodName) prog_9_method_20_code (3 : Nat) (Option.none : Option Jvm.ClassFile.FieldType)) ∈ wsG := tw6 2 rfl rfl
theorem wd1292 : (Jvm.Cond.methodLink "SaleRoundsModel" (214 : Nat) ({ cls := "SaleRoundsModel", name := "lays", desc := "()V" } : Jvm.MethodName)) ∈ wsG := tw6 3 rfl rfl
theorem wd1294 : (Jvm.Cond.instanceMethod ({ cls := "SaleRoundsModel", name := "lays", desc := "()V" } : Jvm.MethodName)) ∈ wsG := tw6 5 rfl rfl
theorem wd1295 : (Jvm.Cond.code ({ cls := "SaleRoundsModel", name := "lays", desc := "()V" } : Jvm.MethodName) prog_9_method_22_code (2 : Nat) (Option.none : Option Jvm.ClassFile.FieldType)) ∈ wsG := tw6 6 rfl rfl
theorem wd1296 : (Jvm.Cond.methodLink "SaleRoundsLaw" (34 : Nat) ({ cls := "SaleRoundsModel", name := "fault", desc := "(I)I" } : Jvm.MethodName)) ∈ wsG := tw6 7 rfl rfl
theorem wd1297 : (Jvm.Cond.instanceMethod ({ cls := "SaleRoundsModel", name := "fault", desc := "(I)I" } : Jvm.MethodName)) ∈ wsG := tw6 8 rfl rfl
theorem wd1298 : (Jvm.Cond.selects "SaleRoundsModel" ({ cls := "SaleRoundsModel", name := "fault", desc := "(I)I" } : Jvm.MethodName) ({ cls := "SaleRoundsModel", name := "fault", desc := "(I)I" } : Jvm.MethodName)) ∈ wsG := tw6 9 rfl rfl
theorem wd1299 : (Jvm.Cond.code ({ cls := "SaleRoundsModel", name := "fault", desc := "(I)I" } : Jvm.MethodName) prog_9_method_23_code (2 : Nat) (Option.some Jvm.ClassFile.FieldType.int)) ∈ wsG := tw6 10 rfl rfl
theorem wd1300 : (Jvm.Cond.methodLink "SaleRoundsLaw" (38 : Nat) ({ cls := "SaleRoundsModel", name := "named", desc := "(II)I" } : Jvm.MethodName)) ∈ wsG := tw6 11 rfl rfl
theorem wd1301 : (Jvm.Cond.instanceMethod ({ cls := "SaleRoundsModel", name := "named", desc := "(II)I" } : Jvm.MethodName)) ∈ wsG := tw6 12 rfl rfl
theorem wd1302 : (Jvm.Cond.selects "SaleRoundsModel" ({ cls := "SaleRoundsModel", name := "named", desc := "(II)I" } : Jvm.MethodName) ({ cls := "SaleRoundsModel", name := "named", desc := "(II)I" } : Jvm.MethodName)) ∈ wsG := tw6 13 rfl rfl
theorem wd1303 : (Jvm.Cond.code ({ cls := "SaleRoundsModel", name := "named", desc := "(II)I" } : Jvm.MethodName) prog_9_method_24_code (3 : Nat) (Option.some Jvm.ClassFile.FieldType.int)) ∈ wsG := tw6 14 rfl rfl
theorem wd1304 : (Jvm.Cond.methodLink "SaleRoundsLaw" (44 : Nat) ({ cls := "SaleRoundsModel", name := "look", desc := "(II)I" } : Jvm.MethodName)) ∈ wsG := tw6 15 rfl rfl
theorem wd1305 : (Jvm.Cond.instanceMethod ({ cls := "SaleRoundsModel", name := "look", desc := "(II)I" } : Jvm.MethodName)) ∈ wsG := tw6 16 rfl rfl
theorem wd1306 : (Jvm.Cond.selects "SaleRoundsModel" ({ cls := "SaleRoundsModel", name := "look", desc := "(II)I" } : Jvm.MethodName) ({ cls := "SaleRoundsModel", name := "look", desc := "(II)I" } : Jvm.MethodName)) ∈ wsG := tw6 17 rfl rfl
theorem wd1307 : (Jvm.Cond.code ({ cls := "SaleRoundsModel", name := "look", desc := "(II)I" } : Jvm.MethodName) prog_9_method_32_code (3 : Nat) (Option.some Jvm.ClassFile.FieldType.int)) ∈ wsG := tw6 18 rfl rfl
theorem wd1308 : (Jvm.Cond.methodLink "SaleRoundsModel" (252 : Nat) ({ cls := "SaleRoundsModel", name := "isSale", desc := "(I)Z" } : Jvm.MethodName)) ∈ wsG := tw6 19 rfl rfl
theorem wd1310 : (Jvm.Cond.instanceMethod ({ cls := "SaleRoundsModel", name := "isSale", desc := "(I)Z" } : Jvm.MethodName)) ∈ wsG := tw6 21 rfl rfl
theorem wd1311 : (Jvm.Cond.code ({ cls := "SaleRoundsModel", name := "isSale", desc := "(I)Z" } : Jvm.MethodName) prog_9_method_26_code (2 : Nat) (Option.some Jvm.ClassFile.FieldType.boolean)) ∈ wsG := tw6 22 rfl rfl
theorem wd1312 : (Jvm.Cond.methodLink "SaleRoundsModel" (241 : Nat) ({ cls := "SaleRoundsModel", name := "taxOf", desc := "(II)I" } : Jvm.MethodName)) ∈ wsG := tw6 23 rfl rfl
theorem wd1314 : (Jvm.Cond.instanceMethod ({ cls := "SaleRoundsModel", name := "taxOf", desc := "(II)I" } : Jvm.MethodName)) ∈ wsG := tw6 25 rfl rfl
theorem wd1315 : (Jvm.Cond.code ({ cls := "SaleRoundsModel", name := "taxOf", desc := "(II)I" } : Jvm.MethodName) prog_9_method_28_code (3 : Nat) (Option.some Jvm.ClassFile.FieldType.int)) ∈ wsG := tw6 26 rfl rfl
theorem wd1316 : (Jvm.Cond.methodLink "SaleRoundsModel" (238 : Nat) ({ cls := "SaleRoundsModel", name := "rate", desc := "(II)I" } : Jvm.MethodName)) ∈ wsG := tw6 27 rfl rfl
theorem wd1318 : (Jvm.Cond.instanceMethod ({ cls := "SaleRoundsModel", name := "rate", desc := "(II)I" } : Jvm.MethodName)) ∈ wsG := tw6 29 rfl rfl
theorem wd1319 : (Jvm.Cond.code ({ cls := "SaleRoundsModel", name := "rate", desc := "(II)I" } : Jvm.MethodName) prog_9_method_27_code (4 : Nat) (Option.some Jvm.ClassFile.FieldType.int)) ∈ wsG := tw6 30 rfl rfl
theorem wd1320 : (Jvm.Cond.methodLink "SaleRoundsLaw" (48 : Nat) ({ cls := "SaleRoundsModel", name := "firm", desc := "(II)I" } : Jvm.MethodName)) ∈ wsG := tw6 31 rfl rfl
theorem wd1321 : (Jvm.Cond.instanceMethod ({ cls := "SaleRoundsModel", name := "firm", desc := "(II)I" } : Jvm.MethodName)) ∈ wsG := tw6 32 rfl rfl
theorem wd1322 : (Jvm.Cond.selects "SaleRoundsModel" ({ cls := "SaleRoundsModel", name := "firm", desc := "(II)I" } : Jvm.MethodName) ({ cls := "SaleRoundsModel", name := "firm", desc := "(II)I" } : Jvm.MethodName)) ∈ wsG := tw6 33 rfl rfl
theorem wd1323 : (Jvm.Cond.code ({ cls := "SaleRoundsModel", name := "firm", desc := "(II)I" } : Jvm.MethodName) prog_9_method_33_code (3 : Nat) (Option.some Jvm.ClassFile.FieldType.int)) ∈ wsG := tw6 34 rfl rfl
theorem wd1324 : (Jvm.Cond.methodLink "SaleRoundsModel" (255 : Nat) ({ cls := "SaleRoundsModel", name := "isFirm", desc := "(I)Z" } : Jvm.MethodName)) ∈ wsG := tw6 35 rfl rfl
theorem wd1326 : (Jvm.Cond.instanceMethod ({ cls := "SaleRoundsModel", name := "isFirm", desc := "(I)Z" } : Jvm.MethodName)) ∈ wsG := tw6 37 rfl rfl
theorem wd1327 : (Jvm.Cond.code ({ cls := "SaleRoundsModel", name := "isFirm", desc := "(I)Z" } : Jvm.MethodName) prog_9_method_25_code (2 : Nat) (Option.some Jvm.ClassFile.FieldType.boolean)) ∈ wsG := tw6 38 rfl rfl
theorem wd1328 : (Jvm.Cond.constant "SaleRoundsModel" (258 : Nat) (-2147483648 : Int32)) ∈ wsG := tw6 39 rfl rfl
theorem wd1329 : (Jvm.Cond.methodLink "SaleRoundsModel" (259 : Nat) ({ cls := "SaleRoundsModel", name := "parties", desc := "()V" } : Jvm.MethodName)) ∈ wsG := tw6 40 rfl rfl
theorem wd1331 : (Jvm.Cond.instanceMethod ({ cls := "SaleRoundsModel", name := "parties", desc := "()V" } : Jvm.MethodName)) ∈ wsG := tw6 42 rfl rfl
theorem wd1332 : (Jvm.Cond.code ({ cls := "SaleRoundsModel", name := "parties", desc := "()V" } : Jvm.MethodName) prog_9_method_31_code (4 : Nat) (Option.none : Option Jvm.ClassFile.FieldType)) ∈ wsG := tw6 43 rfl rfl
theorem wd1333 : (Jvm.Cond.methodLink "SaleRoundsModel" (247 : Nat) ({ cls := "java/lang/Math", name := "min", desc := "(II)I" } : Jvm.MethodName)) ∈ wsG := tw6 44 rfl rfl
theorem wd1334 : (Jvm.Cond.methodLink "SaleRoundsModel" (244 : Nat) ({ cls := "SaleRoundsModel", name := "owes", desc := "(II)I" } : Jvm.MethodName)) ∈ wsG := tw6 45 rfl rfl
theorem wd1336 : (Jvm.Cond.instanceMethod ({ cls := "SaleRoundsModel", name := "owes", desc := "(II)I" } : Jvm.MethodName)) ∈ wsG := tw6 47 rfl rfl
theorem wd1337 : (Jvm.Cond.code ({ cls := "SaleRoundsModel", name := "owes", desc := "(II)I" } : Jvm.MethodName) prog_9_method_29_code (5 : Nat) (Option.some Jvm.ClassFile.FieldType.int)) ∈ wsG := tw6 48 rfl rfl
theorem wd1338 : (Jvm.Cond.methodLink "SaleRoundsModel" (262 : Nat) ({ cls := "SaleRoundsModel", name := "isMissing", desc := "(II)Z" } : Jvm.MethodName)) ∈ wsG := tw6 49 rfl rfl
theorem wd1340 : (Jvm.Cond.instanceMethod ({ cls := "SaleRoundsModel", name := "isMissing", desc := "(II)Z" } : Jvm.MethodName)) ∈ wsG := tw6 51 rfl rfl
theorem wd1341 : (Jvm.Cond.code ({ cls := "SaleRoundsModel", name := "isMissing", desc := "(II)Z" } : Jvm.MethodName) prog_9_method_30_code (3 : Nat) (Option.some Jvm.ClassFile.FieldType.boolean)) ∈ wsG := tw6 52 rfl rfl
theorem wd1342 : (Jvm.Cond.methodLink "SaleRoundsLaw" (53 : Nat) ({ cls := "SaleRoundsModel", name := "sell", desc := "(IIIIIII)I" } : Jvm.MethodName)) ∈ wsG := tw6 53 rfl rfl
theorem wd1343 : (Jvm.Cond.instanceMethod ({ cls := "SaleRoundsModel", name := "sell", desc := "(IIIIIII)I" } : Jvm.MethodName)) ∈ wsG := tw6 54 rfl rfl
theorem wd1344 : (Jvm.Cond.selects "SaleRoundsModel" ({ cls := "SaleRoundsModel", name := "sell", desc := "(IIIIIII)I" } : Jvm.MethodName) ({ cls := "SaleRoundsModel", name := "sell", desc := "(IIIIIII)I" } : Jvm.MethodName)) ∈ wsG := tw6 55 rfl rfl
theorem wd1345 : (Jvm.Cond.code ({ cls := "SaleRoundsModel", name := "sell", desc := "(IIIIIII)I" } : Jvm.MethodName) prog_9_method_34_code (8 : Nat) (Option.some Jvm.ClassFile.FieldType.int)) ∈ wsG := tw6 56 rfl rfl
theorem wd1346 : (Jvm.Cond.methodLink "SaleRoundsLaw" (58 : Nat) ({ cls := "SaleRoundsModel", name := "undo", desc := "()I" } : Jvm.MethodName)) ∈ wsG := tw6 57 rfl rfl
theorem wd1347 : (Jvm.Cond.instanceMethod ({ cls := "SaleRoundsModel", name := "undo", desc := "()I" } : Jvm.MethodName)) ∈ wsG := tw6 58 rfl rfl
theorem wd1348 : (Jvm.Cond.selects "SaleRoundsModel" ({ cls := "SaleRoundsModel", name := "undo", desc := "()I" } : Jvm.MethodName) ({ cls := "SaleRoundsModel", name := "undo", desc := "()I" } : Jvm.MethodName)) ∈ wsG := tw6 59 rfl rfl
theorem wd1349 : (Jvm.Cond.code ({ cls := "SaleRoundsModel", name := "undo", desc := "()I" } : Jvm.MethodName) prog_9_method_35_code (1 : Nat) (Option.some Jvm.ClassFile.FieldType.int)) ∈ wsG := tw6 60 rfl rfl
theorem wd1350 : (Jvm.Cond.methodLink "SaleRoundsLaw" (62 : Nat) ({ cls := "SaleRoundsModel", name := "pay", desc := "(II)I" } : Jvm.MethodName)) ∈ wsG := tw6 61 rfl rfl
theorem wd1351 : (Jvm.Cond.instanceMethod ({ cls := "SaleRoundsModel", name := "pay", desc := "(II)I" } : Jvm.MethodName)) ∈ wsG := tw6 62 rfl rfl
theorem wd1352 : (Jvm.Cond.selects "SaleRoundsModel" ({ cls := "SaleRoundsModel", name := "pay", desc := "(II)I" } : Jvm.MethodName) ({ cls := "SaleRoundsModel", name := "pay", desc := "(II)I" } : Jvm.MethodName)) ∈ wsG := tw6 63 rfl rfl
theorem wd1353 : (Jvm.Cond.code ({ cls := "SaleRoundsModel", name := "pay", desc := "(II)I" } : Jvm.MethodName) prog_9_method_36_code (3 : Nat) (Option.some Jvm.ClassFile.FieldType.int)) ∈ wsG := tw6 64 rfl rfl
theorem wd1354 : (Jvm.Cond.methodLink "SaleRoundsLaw" (67 : Nat) ({ cls := "SaleRoundsModel", name := "rounds", desc := "(III)I" } : Jvm.MethodName)) ∈ wsG := tw6 65 rfl rfl
theorem wd1355 : (Jvm.Cond.instanceMethod ({ cls := "SaleRoundsModel", name := "rounds", desc := "(III)I" } : Jvm.MethodName)) ∈ wsG := tw6 66 rfl rfl
theorem wd1356 : (Jvm.Cond.selects "SaleRoundsModel" ({ cls := "SaleRoundsModel", name := "rounds", desc := "(III)I" } : Jvm.MethodName) ({ cls := "SaleRoundsModel", name := "rounds", desc := "(III)I" } : Jvm.MethodName)) ∈ wsG := tw6 67 rfl rfl
theorem wd1357 : (Jvm.Cond.code ({ cls := "SaleRoundsModel", name := "rounds", desc := "(III)I" } : Jvm.MethodName) prog_9_method_43_code (4 : Nat) (Option.some Jvm.ClassFile.FieldType.int)) ∈ wsG := tw6 68 rfl rfl
theorem wd1358 : (Jvm.Cond.methodLink "SaleRoundsModel" (295 : Nat) ({ cls := "SaleRoundsModel", name := "isAsked", desc := "(III)Z" } : Jvm.MethodName)) ∈ wsG := tw6 69 rfl rfl
theorem wd1359 : (Jvm.Cond.static ({ cls := "SaleRoundsModel", name := "isAsked", desc := "(III)Z" } : Jvm.MethodName)) ∈ wsG := tw6 70 rfl rfl
theorem wd1360 : (Jvm.Cond.code ({ cls := "SaleRoundsModel", name := "isAsked", desc := "(III)Z" } : Jvm.MethodName) prog_9_method_37_code (3 : Nat) (Option.some Jvm.ClassFile.FieldType.boolean)) ∈ wsG := tw6 71 rfl rfl
theorem wd1361 : (Jvm.Cond.methodLink "SaleRoundsModel" (299 : Nat) ({ cls := "SaleRoundsModel", name := "seeksNow", desc := "(III)V" } : Jvm.MethodName)) ∈ wsG := tw6 72 rfl rfl
theorem wd1363 : (Jvm.Cond.instanceMethod ({ cls := "SaleRoundsModel", name := "seeksNow", desc := "(III)V" } : Jvm.MethodName)) ∈ wsG := tw6 74 rfl rfl
theorem wd1364 : (Jvm.Cond.code ({ cls := "SaleRoundsModel", name := "seeksNow", desc := "(III)V" } : Jvm.MethodName) prog_9_method_42_code (5 : Nat) (Option.none : Option Jvm.ClassFile.FieldType)) ∈ wsG := tw6 75 rfl rfl
theorem wd1365 : (Jvm.Cond.methodLink "SaleRoundsModel" (291 : Nat) ({ cls := "SaleRoundsModel", name := "seeks", desc := "(III)V" } : Jvm.MethodName)) ∈ wsG := tw6 76 rfl rfl
theorem wd1367 : (Jvm.Cond.instanceMethod ({ cls := "SaleRoundsModel", name := "seeks", desc := "(III)V" } : Jvm.MethodName)) ∈ wsG := tw6 78 rfl rfl
theorem wd1368 : (Jvm.Cond.code ({ cls := "SaleRoundsModel", name := "seeks", desc := "(III)V" } : Jvm.MethodName) prog_9_method_41_code (5 : Nat) (Option.none : Option Jvm.ClassFile.FieldType)) ∈ wsG := tw6 79 rfl rfl
theorem wd1369 : (Jvm.Cond.methodLink "SaleRoundsModel" (266 : Nat) ({ cls := "SaleRoundsModel", name := "isStopped", desc := "(I)Z" } : Jvm.MethodName)) ∈ wsG := tw6 80 rfl rfl
theorem wd1371 : (Jvm.Cond.instanceMethod ({ cls := "SaleRoundsModel", name := "isStopped", desc := "(I)Z" } : Jvm.MethodName)) ∈ wsG := tw6 82 rfl rfl
theorem wd1372 : (Jvm.Cond.code ({ cls := "SaleRoundsModel", name := "isStopped", desc := "(I)Z" } : Jvm.MethodName) prog_9_method_38_code (2 : Nat) (Option.some Jvm.ClassFile.FieldType.boolean)) ∈ wsG := tw6 83 rfl rfl
theorem wd1373 : (Jvm.Cond.methodLink "SaleRoundsModel" (288 : Nat) ({ cls := "SaleRoundsModel", name := "grows", desc := "(I)V" } : Jvm.MethodName)) ∈ wsG := tw6 84 rfl rfl
theorem wd1375 : (Jvm.Cond.instanceMethod ({ cls := "SaleRoundsModel", name := "grows", desc := "(I)V" } : Jvm.MethodName)) ∈ wsG := tw6 86 rfl rfl
theorem wd1376 : (Jvm.Cond.code ({ cls := "SaleRoundsModel", name := "grows", desc := "(I)V" } : Jvm.MethodName) prog_9_method_40_code (3 : Nat) (Option.none : Option Jvm.ClassFile.FieldType)) ∈ wsG := tw6 87 rfl rfl
theorem wd1377 : (Jvm.Cond.methodLink "SaleRoundsModel" (282 : Nat) ({ cls := "SaleRoundsModel", name := "fits", desc := "(II)Z" } : Jvm.MethodName)) ∈ wsG := tw6 88 rfl rfl
theorem wd1379 : (Jvm.Cond.instanceMethod ({ cls := "SaleRoundsModel", name := "fits", desc := "(II)Z" } : Jvm.MethodName)) ∈ wsG := tw6 90 rfl rfl
theorem wd1380 : (Jvm.Cond.code ({ cls := "SaleRoundsModel", name := "fits", desc := "(II)Z" } : Jvm.MethodName) prog_9_method_39_code (6 : Nat) (Option.some Jvm.ClassFile.FieldType.boolean)) ∈ wsG := tw6 91 rfl rfl
theorem wd1381 : (Jvm.Cond.methodLink "SaleRoundsLaw" (71 : Nat) ({ cls := "SaleRoundsModel", name := "round", desc := "(IIIII)I" } : Jvm.MethodName)) ∈ wsG := tw6 92 rfl rfl
theorem wd1382 : (Jvm.Cond.instanceMethod ({ cls := "SaleRoundsModel", name := "round", desc := "(IIIII)I" } : Jvm.MethodName)) ∈ wsG := tw6 93 rfl rfl
theorem wd1383 : (Jvm.Cond.selects "SaleRoundsModel" ({ cls := "SaleRoundsModel", name := "round", desc := "(IIIII)I" } : Jvm.MethodName) ({ cls := "SaleRoundsModel", name := "round", desc := "(IIIII)I" } : Jvm.MethodName)) ∈ wsG := tw6 94 rfl rfl
theorem wd1384 : (Jvm.Cond.code ({ cls := "SaleRoundsModel", name := "round", desc := "(IIIII)I" } : Jvm.MethodName) prog_9_method_47_code (6 : Nat) (Option.some Jvm.ClassFile.FieldType.int)) ∈ wsG := tw6 95 rfl rfl
theorem wd1385 : (Jvm.Cond.methodLink "SaleRoundsModel" (305 : Nat) ({ cls := "SaleRoundsModel", name := "carries", desc := "(I)I" } : Jvm.MethodName)) ∈ wsG := tw6 96 rfl rfl
theorem wd1387 : (Jvm.Cond.instanceMethod ({ cls := "SaleRoundsModel", name := "carries", desc := "(I)I" } : Jvm.MethodName)) ∈ wsG := tw6 98 rfl rfl
theorem wd1388 : (Jvm.Cond.code ({ cls := "SaleRoundsModel", name := "carries", desc := "(I)I" } : Jvm.MethodName) prog_9_method_44_code (4 : Nat) (Option.some Jvm.ClassFile.FieldType.int)) ∈ wsG := tw6 99 rfl rfl
theorem wd1389 : (Jvm.Cond.methodLink "SaleRoundsModel" (309 : Nat) ({ cls := "SaleRoundsModel", name := "takesOf", desc := "(III)I" } : Jvm.MethodName)) ∈ wsG := tw6 100 rfl rfl
theorem wd1391 : (Jvm.Cond.instanceMethod ({ cls := "SaleRoundsModel", name := "takesOf", desc := "(III)I" } : Jvm.MethodName)) ∈ wsG := tw6 102 rfl rfl
theorem wd1392 : (Jvm.Cond.code ({ cls := "SaleRoundsModel", name := "takesOf", desc := "(III)I" } : Jvm.MethodName) prog_9_method_46_code (8 : Nat) (Option.some Jvm.ClassFile.FieldType.int)) ∈ wsG := tw6 103 rfl rfl
theorem wd1393 : (Jvm.Cond.methodLink "SaleRoundsModel" (302 : Nat) ({ cls := "java/lang/Math", name := "max", desc := "(II)I" } : Jvm.MethodName)) ∈ wsG := tw6 104 rfl rfl
theorem wd1394 : (Jvm.Cond.methodLink "SaleRoundsModel" (313 : Nat) ({ cls := "SaleRoundsModel", name := "firmsOf", desc := "(I)I" } : Jvm.MethodName)) ∈ wsG := tw6 105 rfl rfl
theorem wd1396 : (Jvm.Cond.instanceMethod ({ cls := "SaleRoundsModel", name := "firmsOf", desc := "(I)I" } : Jvm.MethodName)) ∈ wsG := tw6 107 rfl rfl
theorem wd1397 : (Jvm.Cond.code ({ cls := "SaleRoundsModel", name := "firmsOf", desc := "(I)I" } : Jvm.MethodName) prog_9_method_45_code (4 : Nat) (Option.some Jvm.ClassFile.FieldType.int)) ∈ wsG := tw6 108 rfl rfl
theorem wd1398 : (Jvm.Cond.methodLink "SaleRoundsLaw" (78 : Nat) ({ cls := "SaleRoundsModel", name := "judge", desc := "(IIJ)I" } : Jvm.MethodName)) ∈ wsG := tw6 109 rfl rfl
theorem wd1399 : (Jvm.Cond.instanceMethod ({ cls := "SaleRoundsModel", name := "judge", desc := "(IIJ)I" } : Jvm.MethodName)) ∈ wsG := tw6 110 rfl rfl
theorem wd1400 : (Jvm.Cond.selects "SaleRoundsModel" ({ cls := "SaleRoundsModel", name := "judge", desc := "(IIJ)I" } : Jvm.MethodName) ({ cls := "SaleRoundsModel", name := "judge", desc := "(IIJ)I" } : Jvm.MethodName)) ∈ wsG := tw6 111 rfl rfl
theorem wd1401 : (Jvm.Cond.code ({ cls := "SaleRoundsModel", name := "judge", desc := "(IIJ)I" } : Jvm.MethodName) prog_9_method_48_code (6 : Nat) (Option.some Jvm.ClassFile.FieldType.int)) ∈ wsG := tw6 112 rfl rfl
theorem wd1402 : (Jvm.Cond.constantLong "SaleRoundsModel" (316 : Nat) (63 : Int64)) ∈ wsG := tw6 113 rfl rfl
theorem wd1403 : (Jvm.Cond.methodLink "SaleRoundsLaw" (83 : Nat) ({ cls := "SaleRoundsModel", name := "takes", desc := "(III)J" } : Jvm.MethodName)) ∈ wsG := tw6 114 rfl rfl
theorem wd1404 : (Jvm.Cond.instanceMethod ({ cls := "SaleRoundsModel", name := "takes", desc := "(III)J" } : Jvm.MethodName)) ∈ wsG := tw6 115 rfl rfl
theorem wd1405 : (Jvm.Cond.selects "SaleRoundsModel" ({ cls := "SaleRoundsModel", name := "takes", desc := "(III)J" } : Jvm.MethodName) ({ cls := "SaleRoundsModel", name := "takes", desc := "(III)J" } : Jvm.MethodName)) ∈ wsG := tw6 116 rfl rfl
theorem wd1406 : (Jvm.Cond.code ({ cls := "SaleRoundsModel", name := "takes", desc := "(III)J" } : Jvm.MethodName) prog_9_method_49_code (4 : Nat) (Option.some Jvm.ClassFile.FieldType.long)) ∈ wsG := tw6 117 rfl rfl
theorem wd1407 : (Jvm.Cond.constantLong "SaleRoundsModel" (318 : Nat) (-1 : Int64)) ∈ wsG := tw6 118 rfl rfl
theorem wd1408 : (Jvm.Cond.constantLong "SaleRoundsModel" (320 : Nat) (-2 : Int64)) ∈ wsG := tw6 119 rfl rfl
theorem wd1409 : (Jvm.Cond.methodLink "SaleRoundsModel" (322 : Nat) ({ cls := "SaleRoundsModel", name := "allTakes", desc := "(III)J" } : Jvm.MethodName)) ∈ wsG := tw6 120 rfl rfl
theorem wd1411 : (Jvm.Cond.instanceMethod ({ cls := "SaleRoundsModel", name := "allTakes", desc := "(III)J" } : Jvm.MethodName)) ∈ wsG := tw6 122 rfl rfl
theorem wd1412 : (Jvm.Cond.code ({ cls := "SaleRoundsModel", name := "allTakes", desc := "(III)J" } : Jvm.MethodName) prog_9_method_50_code (7 : Nat) (Option.some Jvm.ClassFile.FieldType.long)) ∈ wsG := tw6 123 rfl rfl
theorem wd1413 : (Jvm.Cond.methodLink "SaleRoundsLaw" (87 : Nat) ({ cls := "SaleRoundsModel", name := "flow", desc := "(II)I" } : Jvm.MethodName)) ∈ wsG := tw6 124 rfl rfl
theorem wd1414 : (Jvm.Cond.instanceMethod ({ cls := "SaleRoundsModel", name := "flow", desc := "(II)I" } : Jvm.MethodName)) ∈ wsG := tw6 125 rfl rfl
theorem wd1415 : (Jvm.Cond.selects "SaleRoundsModel" ({ cls := "SaleRoundsModel", name := "flow", desc := "(II)I" } : Jvm.MethodName) ({ cls := "SaleRoundsModel", name := "flow", desc := "(II)I" } : Jvm.MethodName)) ∈ wsG := tw6 126 rfl rfl
theorem wd1416 : (Jvm.Cond.code ({ cls := "SaleRoundsModel", name := "flow", desc := "(II)I" } : Jvm.MethodName) prog_9_method_53_code (3 : Nat) (Option.some Jvm.ClassFile.FieldType.int)) ∈ wsG := tw6 127 rfl rfl
theorem wd1417 : (Jvm.Cond.methodLink "SaleRoundsModel" (326 : Nat) ({ cls := "SaleRoundsModel", name := "flowBy", desc := "(II)I" } : Jvm.MethodName)) ∈ wsG := tw6 128 rfl rfl
theorem wd1419 : (Jvm.Cond.instanceMethod ({ cls := "SaleRoundsModel", name := "flowBy", desc := "(II)I" } : Jvm.MethodName)) ∈ wsG := tw6 130 rfl rfl
theorem wd1420 : (Jvm.Cond.code ({ cls := "SaleRoundsModel", name := "flowBy", desc := "(II)I" } : Jvm.MethodName) prog_9_method_54_code (6 : Nat) (Option.some Jvm.ClassFile.FieldType.int)) ∈ wsG := tw6 131 rfl rfl
theorem wd1421 : (Jvm.Cond.methodLink "SaleRoundsModel" (329 : Nat) ({ cls := "SaleRoundsModel", name := "counts", desc := "(II)Z" } : Jvm.MethodName)) ∈ wsG := tw6 132 rfl rfl
theorem wd1423 : (Jvm.Cond.instanceMethod ({ cls := "SaleRoundsModel", name := "counts", desc := "(II)Z" } : Jvm.MethodName)) ∈ wsG := tw6 134 rfl rfl
theorem wd1424 : (Jvm.Cond.code ({ cls := "SaleRoundsModel", name := "counts", desc := "(II)Z" } : Jvm.MethodName) prog_9_method_51_code (3 : Nat) (Option.some Jvm.ClassFile.FieldType.boolean)) ∈ wsG := tw6 135 rfl rfl
theorem wd1425 : (Jvm.Cond.methodLink "SaleRoundsModel" (332 : Nat) ({ cls := "SaleRoundsModel", name := "mayHand", desc := "(III)Z" } : Jvm.MethodName)) ∈ wsG := tw6 136 rfl rfl
theorem wd1427 : (Jvm.Cond.instanceMethod ({ cls := "SaleRoundsModel", name := "mayHand", desc := "(III)Z" } : Jvm.MethodName)) ∈ wsG := tw6 138 rfl rfl
theorem wd1428 : (Jvm.Cond.code ({ cls := "SaleRoundsModel", name := "mayHand", desc := "(III)Z" } : Jvm.MethodName) prog_9_method_52_code (4 : Nat) (Option.some Jvm.ClassFile.FieldType.boolean)) ∈ wsG := tw6 139 rfl rfl
theorem wd1429 : (Jvm.Cond.methodLink "SaleRoundsModel" (335 : Nat) ({ cls := "SaleRoundsModel", name := "reaches", desc := "()Z" } : Jvm.MethodName)) ∈ wsG := tw6 140 rfl rfl
theorem wd1431 : (Jvm.Cond.instanceMethod ({ cls := "SaleRoundsModel", name := "reaches", desc := "()Z" } : Jvm.MethodName)) ∈ wsG := tw6 142 rfl rfl
theorem wd1432 : (Jvm.Cond.code ({ cls := "SaleRoundsModel", name := "reaches", desc := "()Z" } : Jvm.MethodName) prog_9_method_55_code (4 : Nat) (Option.some Jvm.ClassFile.FieldType.boolean)) ∈ wsG := tw6 143 rfl rfl
theorem wd1433 : (Jvm.Cond.methodLink "SaleRoundsLaw" (91 : Nat) ({ cls := "SaleRoundsModel", name := "luck", desc := "(IIIII)I" } : Jvm.MethodName)) ∈ wsG := tw6 144 rfl rfl
theorem wd1434 : (Jvm.Cond.instanceMethod ({ cls := "SaleRoundsModel", name := "luck", desc := "(IIIII)I" } : Jvm.MethodName)) ∈ wsG := tw6 145 rfl rfl
theorem wd1435 : (Jvm.Cond.selects "SaleRoundsModel" ({ cls := "SaleRoundsModel", name := "luck", desc := "(IIIII)I" } : Jvm.MethodName) ({ cls := "SaleRoundsModel", name := "luck", desc := "(IIIII)I" } : Jvm.MethodName)) ∈ wsG := tw6 146 rfl rfl
theorem wd1436 : (Jvm.Cond.code ({ cls := "SaleRoundsModel", name := "luck", desc := "(IIIII)I" } : Jvm.MethodName) prog_9_method_56_code (13 : Nat) (Option.some Jvm.ClassFile.FieldType.int)) ∈ wsG := tw6 147 rfl rfl
theorem wd1437 : (Jvm.Cond.constant "SaleRoundsModel" (339 : Nat) (1103515245 : Int32)) ∈ wsG := tw6 148 rfl rfl
theorem wd1438 : (Jvm.Cond.constant "SaleRoundsModel" (340 : Nat) (2147483647 : Int32)) ∈ wsG := tw6 149 rfl rfl
theorem wd1439 : (Jvm.Cond.methodLink "SaleRoundsLaw" (96 : Nat) ({ cls := "SaleRoundsModel", name := "signs", desc := "(IIII)I" } : Jvm.MethodName)) ∈ wsG := tw6 150 rfl rfl
theorem wd1440 : (Jvm.Cond.instanceMethod ({ cls := "SaleRoundsModel", name := "signs", desc := "(IIII)I" } : Jvm.MethodName)) ∈ wsG := tw6 151 rfl rfl
theorem wd1441 : (Jvm.Cond.selects "SaleRoundsModel" ({ cls := "SaleRoundsModel", name := "signs", desc := "(IIII)I" } : Jvm.MethodName) ({ cls := "SaleRoundsModel", name := "signs", desc := "(IIII)I" } : Jvm.MethodName)) ∈ wsG := tw6 152 rfl rfl
theorem wd1442 : (Jvm.Cond.code ({ cls := "SaleRoundsModel", name := "signs", desc := "(IIII)I" } : Jvm.MethodName) prog_9_method_63_code (5 : Nat) (Option.some Jvm.ClassFile.FieldType.int)) ∈ wsG := tw6 153 rfl rfl
theorem wd1443 : (Jvm.Cond.methodLink "SaleRoundsModel" (356 : Nat) ({ cls := "SaleRoundsModel", name := "signsOf", desc := "(I)I" } : Jvm.MethodName)) ∈ wsG := tw6 154 rfl rfl
theorem wd1445 : (Jvm.Cond.instanceMethod ({ cls := "SaleRoundsModel", name := "signsOf", desc := "(I)I" } : Jvm.MethodName)) ∈ wsG := tw6 156 rfl rfl
theorem wd1446 : (Jvm.Cond.code ({ cls := "SaleRoundsModel", name := "signsOf", desc := "(I)I" } : Jvm.MethodName) prog_9_method_62_code (2 : Nat) (Option.some Jvm.ClassFile.FieldType.int)) ∈ wsG := tw6 157 rfl rfl
theorem wd1447 : (Jvm.Cond.methodLink "SaleRoundsModel" (344 : Nat) ({ cls := "SaleRoundsModel", name := "soldUnder", desc := "(I)Z" } : Jvm.MethodName)) ∈ wsG := tw6 158 rfl rfl
theorem wd1449 : (Jvm.Cond.instanceMethod ({ cls := "SaleRoundsModel", name := "soldUnder", desc := "(I)Z" } : Jvm.MethodName)) ∈ wsG := tw6 160 rfl rfl
theorem wd1450 : (Jvm.Cond.code ({ cls := "SaleRoundsModel", name := "soldUnder", desc := "(I)Z" } : Jvm.MethodName) prog_9_method_57_code (4 : Nat) (Option.some Jvm.ClassFile.FieldType.boolean)) ∈ wsG := tw6 161 rfl rfl
theorem wd1451 : (Jvm.Cond.methodLink "SaleRoundsModel" (347 : Nat) ({ cls := "SaleRoundsModel", name := "boughtOfSuch", desc := "(I)Z" } : Jvm.MethodName)) ∈ wsG := tw6 162 rfl rfl
theorem wd1453 : (Jvm.Cond.instanceMethod ({ cls := "SaleRoundsModel", name := "boughtOfSuch", desc := "(I)Z" } : Jvm.MethodName)) ∈ wsG := tw6 164 rfl rfl
theorem wd1454 : (Jvm.Cond.code ({ cls := "SaleRoundsModel", name := "boughtOfSuch", desc := "(I)Z" } : Jvm.MethodName) prog_9_method_59_code (4 : Nat) (Option.some Jvm.ClassFile.FieldType.boolean)) ∈ wsG := tw6 165 rfl rfl
theorem wd1455 : (Jvm.Cond.methodLink "SaleRoundsModel" (341 : Nat) ({ cls := "SaleRoundsModel", name := "boughtFromMissing", desc := "(I)Z" } : Jvm.MethodName)) ∈ wsG := tw6 166 rfl rfl
theorem wd1457 : (Jvm.Cond.instanceMethod ({ cls := "SaleRoundsModel", name := "boughtFromMissing", desc := "(I)Z" } : Jvm.MethodName)) ∈ wsG := tw6 168 rfl rfl
theorem wd1458 : (Jvm.Cond.code ({ cls := "SaleRoundsModel", name := "boughtFromMissing", desc := "(I)Z" } : Jvm.MethodName) prog_9_method_58_code (3 : Nat) (Option.some Jvm.ClassFile.FieldType.boolean)) ∈ wsG := tw6 169 rfl rfl
theorem wd1459 : (Jvm.Cond.methodLink "SaleRoundsModel" (350 : Nat) ({ cls := "SaleRoundsModel", name := "roundsWith", desc := "(I)I" } : Jvm.MethodName)) ∈ wsG := tw6 170 rfl rfl
theorem wd1461 : (Jvm.Cond.instanceMethod ({ cls := "SaleRoundsModel", name := "roundsWith", desc := "(I)I" } : Jvm.MethodName)) ∈ wsG := tw6 172 rfl rfl
theorem wd1462 : (Jvm.Cond.code ({ cls := "SaleRoundsModel", name := "roundsWith", desc := "(I)I" } : Jvm.MethodName) prog_9_method_60_code (4 : Nat) (Option.some Jvm.ClassFile.FieldType.int)) ∈ wsG := tw6 173 rfl rfl
theorem wd1463 : (Jvm.Cond.methodLink "SaleRoundsModel" (353 : Nat) ({ cls := "SaleRoundsModel", name := "hasMissing", desc := "(I)Z" } : Jvm.MethodName)) ∈ wsG := tw6 174 rfl rfl
theorem wd1465 : (Jvm.Cond.instanceMethod ({ cls := "SaleRoundsModel", name := "hasMissing", desc := "(I)Z" } : Jvm.MethodName)) ∈ wsG := tw6 176 rfl rfl
theorem wd1466 : (Jvm.Cond.code ({ cls := "SaleRoundsModel", name := "hasMissing", desc := "(I)Z" } : Jvm.MethodName) prog_9_method_61_code (3 : Nat) (Option.some Jvm.ClassFile.FieldType.boolean)) ∈ wsG := tw6 177 rfl rfl
theorem wd1467 : (Jvm.Cond.methodLink "SaleRoundsLaw" (100 : Nat) ({ cls := "SaleRoundsModel", name := "knew", desc := "(IIIII)I" } : Jvm.MethodName)) ∈ wsG := tw6 178 rfl rfl
theorem wd1468 : (Jvm.Cond.instanceMethod ({ cls := "SaleRoundsModel", name := "knew", desc := "(IIIII)I" } : Jvm.MethodName)) ∈ wsG := tw6 179 rfl rfl
theorem wd1469 : (Jvm.Cond.selects "SaleRoundsModel" ({ cls := "SaleRoundsModel", name := "knew", desc := "(IIIII)I" } : Jvm.MethodName) ({ cls := "SaleRoundsModel", name := "knew", desc := "(IIIII)I" } : Jvm.MethodName)) ∈ wsG := tw6 180 rfl rfl
theorem wd1470 : (Jvm.Cond.code ({ cls := "SaleRoundsModel", name := "knew", desc := "(IIIII)I" } : Jvm.MethodName) prog_9_method_64_code (9 : Nat) (Option.some Jvm.ClassFile.FieldType.int)) ∈ wsG := tw6 181 rfl rfl
theorem wd1471 : (Jvm.Cond.methodLink "SaleRoundsLaw" (104 : Nat) ({ cls := "SaleRoundsModel", name := "hands", desc := "()I" } : Jvm.MethodName)) ∈ wsG := tw6 182 rfl rfl
theorem wd1472 : (Jvm.Cond.instanceMethod ({ cls := "SaleRoundsModel", name := "hands", desc := "()I" } : Jvm.MethodName)) ∈ wsG := tw6 183 rfl rfl
theorem wd1473 : (Jvm.Cond.selects "SaleRoundsModel" ({ cls := "SaleRoundsModel", name := "hands", desc := "()I" } : Jvm.MethodName) ({ cls := "SaleRoundsModel", name := "hands", desc := "()I" } : Jvm.MethodName)) ∈ wsG := tw6 184 rfl rfl
theorem wd1474 : (Jvm.Cond.code ({ cls := "SaleRoundsModel", name := "hands", desc := "()I" } : Jvm.MethodName) prog_9_method_65_code (3 : Nat) (Option.some Jvm.ClassFile.FieldType.int)) ∈ wsG := tw6 185 rfl rfl
theorem wd1475 : (Jvm.Cond.methodLink "SaleRoundsLaw" (108 : Nat) ({ cls := "SaleRoundsModel", name := "lacking", desc := "(I)I" } : Jvm.MethodName)) ∈ wsG := tw6 186 rfl rfl
theorem wd1476 : (Jvm.Cond.instanceMethod ({ cls := "SaleRoundsModel", name := "lacking", desc := "(I)I" } : Jvm.MethodName)) ∈ wsG := tw6 187 rfl rfl
theorem wd1477 : (Jvm.Cond.selects "SaleRoundsModel" ({ cls := "SaleRoundsModel", name := "lacking", desc := "(I)I" } : Jvm.MethodName) ({ cls := "SaleRoundsModel", name := "lacking", desc := "(I)I" } : Jvm.MethodName)) ∈ wsG := tw6 188 rfl rfl
theorem wd1478 : (Jvm.Cond.code ({ cls := "SaleRoundsModel", name := "lacking", desc := "(I)I" } : Jvm.MethodName) prog_9_method_66_code (6 : Nat) (Option.some Jvm.ClassFile.FieldType.int)) ∈ wsG := tw6 189 rfl rfl
theorem wd1479 : (Jvm.Cond.methodLink "SaleRoundsLaw" (112 : Nat) ({ cls := "SaleRoundsModel", name := "stop", desc := "(I)I" } : Jvm.MethodName)) ∈ wsG := tw6 190 rfl rfl
theorem wd1480 : (Jvm.Cond.instanceMethod ({ cls := "SaleRoundsModel", name := "stop", desc := "(I)I" } : Jvm.MethodName)) ∈ wsG := tw6 191 rfl rfl
theorem wd1481 : (Jvm.Cond.selects "SaleRoundsModel" ({ cls := "SaleRoundsModel", name := "stop", desc := "(I)I" } : Jvm.MethodName) ({ cls := "SaleRoundsModel", name := "stop", desc := "(I)I" } : Jvm.MethodName)) ∈ wsG := tw6 192 rfl rfl
theorem wd1482 : (Jvm.Cond.code ({ cls := "SaleRoundsModel", name := "stop", desc := "(I)I" } : Jvm.MethodName) prog_9_method_68_code (2 : Nat) (Option.some Jvm.ClassFile.FieldType.int)) ∈ wsG := tw6 193 rfl rfl
theorem wd1483 : (Jvm.Cond.methodLink "SaleRoundsModel" (359 : Nat) ({ cls := "SaleRoundsModel", name := "bits", desc := "(I)I" } : Jvm.MethodName)) ∈ wsG := tw6 194 rfl rfl
theorem wd1484 : (Jvm.Cond.static ({ cls := "SaleRoundsModel", name := "bits", desc := "(I)I" } : Jvm.MethodName)) ∈ wsG := tw6 195 rfl rfl
theorem wd1485 : (Jvm.Cond.code ({ cls := "SaleRoundsModel", name := "bits", desc := "(I)I" } : Jvm.MethodName) prog_9_method_67_code (3 : Nat) (Option.some Jvm.ClassFile.FieldType.int)) ∈ wsG := tw6 196 rfl rfl
theorem wd1486 : (Jvm.Cond.methodLink "SaleRoundsLaw" (117 : Nat) ({ cls := "SaleRoundsModel", name := "fewest", desc := "(IIIJ)I" } : Jvm.MethodName)) ∈ wsG := tw6 197 rfl rfl
theorem wd1487 : (Jvm.Cond.instanceMethod ({ cls := "SaleRoundsModel", name := "fewest", desc := "(IIIJ)I" } : Jvm.MethodName)) ∈ wsG := tw6 198 rfl rfl
theorem wd1488 : (Jvm.Cond.selects "SaleRoundsModel" ({ cls := "SaleRoundsModel", name := "fewest", desc := "(IIIJ)I" } : Jvm.MethodName) ({ cls := "SaleRoundsModel", name := "fewest", desc := "(IIIJ)I" } : Jvm.MethodName)) ∈ wsG := tw6 199 rfl rfl
theorem wd1489 : (Jvm.Cond.code ({ cls := "SaleRoundsModel", name := "fewest", desc := "(IIIJ)I" } : Jvm.MethodName) prog_9_method_69_code (11 : Nat) (Option.some Jvm.ClassFile.FieldType.int)) ∈ wsG := tw6 200 rfl rfl
theorem wd1490 : (Jvm.Cond.methodLink "SaleRoundsLaw" (121 : Nat) ({ cls := "SaleRoundsModel", name := "rule", desc := "(I)I" } : Jvm.MethodName)) ∈ wsG := tw6 201 rfl rfl
theorem wd1491 : (Jvm.Cond.instanceMethod ({ cls := "SaleRoundsModel", name := "rule", desc := "(I)I" } : Jvm.MethodName)) ∈ wsG := tw6 202 rfl rfl
theorem wd1492 : (Jvm.Cond.selects "SaleRoundsModel" ({ cls := "SaleRoundsModel", name := "rule", desc := "(I)I" } : Jvm.MethodName) ({ cls := "SaleRoundsModel", name := "rule", desc := "(I)I" } : Jvm.MethodName)) ∈ wsG := tw6 203 rfl rfl
theorem wd1493 : (Jvm.Cond.code ({ cls := "SaleRoundsModel", name := "rule", desc := "(I)I" } : Jvm.MethodName) prog_9_method_70_code (2 : Nat) (Option.some Jvm.ClassFile.FieldType.int)) ∈ wsG := tw6 204 rfl rfl
theorem wd1494 : (Jvm.Cond.methodLink "SaleRoundsLaw" (125 : Nat) ({ cls := "SaleRoundsModel", name := "burden", desc := "(I)I" } : Jvm.MethodName)) ∈ wsG := tw6 205 rfl rfl
theorem wd1495 : (Jvm.Cond.instanceMethod ({ cls := "SaleRoundsModel", name := "burden", desc := "(I)I" } : Jvm.MethodName)) ∈ wsG := tw6 206 rfl rfl
theorem wd1496 : (Jvm.Cond.selects "SaleRoundsModel" ({ cls := "SaleRoundsModel", name := "burden", desc := "(I)I" } : Jvm.MethodName) ({ cls := "SaleRoundsModel", name := "burden", desc := "(I)I" } : Jvm.MethodName)) ∈ wsG := tw6 207 rfl rfl
theorem wd1497 : (Jvm.Cond.code ({ cls := "SaleRoundsModel", name := "burden", desc := "(I)I" } : Jvm.MethodName) prog_9_method_72_code (2 : Nat) (Option.some Jvm.ClassFile.FieldType.int)) ∈ wsG := tw6 208 rfl rfl
theorem wd1498 : (Jvm.Cond.methodLink "SaleRoundsModel" (362 : Nat) ({ cls := "SaleRoundsModel", name := "burdenOf", desc := "(I)I" } : Jvm.MethodName)) ∈ wsG := tw6 209 rfl rfl
theorem wd1500 : (Jvm.Cond.instanceMethod ({ cls := "SaleRoundsModel", name := "burdenOf", desc := "(I)I" } : Jvm.MethodName)) ∈ wsG := tw6 211 rfl rfl
theorem wd1501 : (Jvm.Cond.code ({ cls := "SaleRoundsModel", name := "burdenOf", desc := "(I)I" } : Jvm.MethodName) prog_9_method_71_code (4 : Nat) (Option.some Jvm.ClassFile.FieldType.int)) ∈ wsG := tw6 212 rfl rfl
theorem wd1502 : (Jvm.Cond.methodLink "SaleRoundsLaw" (130 : Nat) ({ cls := "SaleRoundsModel", name := "starve", desc := "(IIIII)J" } : Jvm.MethodName)) ∈ wsG := tw6 213 rfl rfl
theorem wd1503 : (Jvm.Cond.instanceMethod ({ cls := "SaleRoundsModel", name := "starve", desc := "(IIIII)J" } : Jvm.MethodName)) ∈ wsG := tw6 214 rfl rfl
theorem wd1504 : (Jvm.Cond.selects "SaleRoundsModel" ({ cls := "SaleRoundsModel", name := "starve", desc := "(IIIII)J" } : Jvm.MethodName) ({ cls := "SaleRoundsModel", name := "starve", desc := "(IIIII)J" } : Jvm.MethodName)) ∈ wsG := tw6 215 rfl rfl
theorem wd1505 : (Jvm.Cond.code ({ cls := "SaleRoundsModel", name := "starve", desc := "(IIIII)J" } : Jvm.MethodName) prog_9_method_73_code (14 : Nat) (Option.some Jvm.ClassFile.FieldType.long)) ∈ wsG := tw6 216 rfl rfl
theorem wd1506 : (Jvm.Cond.methodLink "SaleRoundsLaw" (134 : Nat) ({ cls := "SaleRoundsModel", name := "count", desc := "(I)I" } : Jvm.MethodName)) ∈ wsG := tw6 217 rfl rfl
theorem wd1507 : (Jvm.Cond.instanceMethod ({ cls := "SaleRoundsModel", name := "count", desc := "(I)I" } : Jvm.MethodName)) ∈ wsG := tw6 218 rfl rfl
theorem wd1508 : (Jvm.Cond.selects "SaleRoundsModel" ({ cls := "SaleRoundsModel", name := "count", desc := "(I)I" } : Jvm.MethodName) ({ cls := "SaleRoundsModel", name := "count", desc := "(I)I" } : Jvm.MethodName)) ∈ wsG := tw6 219 rfl rfl
theorem wd1509 : (Jvm.Cond.code ({ cls := "SaleRoundsModel", name := "count", desc := "(I)I" } : Jvm.MethodName) prog_9_method_74_code (4 : Nat) (Option.some Jvm.ClassFile.FieldType.int)) ∈ wsG := tw6 220 rfl rfl
theorem wd1510 : (Jvm.Cond.constantLong "SaleRoundsLaw" (72 : Nat) (4294967295 : Int64)) ∈ wsG := tw6 221 rfl rfl
