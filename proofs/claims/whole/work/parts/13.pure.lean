/-! plain functions: what the methods answer, in numbers -/
def hasP (set mem : Int32) : Prop := (set >>> (mem &&& 31)) &&& 1 = 1
def onlyI (m : Int32) : Int32 := (1 : Int32) <<< (m &&& 31)
def heldI (v : Int32) : Int32 := if v < 0 then 0 else if 99 < v then 99 else v
/-- what one shivers at, needs, wears: by kind -/
noncomputable def fPlain (mi te tp ht : Int32) : Int32 := ht + @ite Int32 (hasP mi tp) (Classical.propDecidable _) te 0
noncomputable def fShiv (ki mi te oath tp ht so : Int32) (i : Int32) : Int32 :=
  if ki = 1 then fPlain mi te tp ht + (if so = 1 then oath else 0)
  else if ki = 2 then fPlain mi te tp ht - 2
  else if ki = 3 then (fPlain mi te tp ht + (if so = 1 then oath else 0)) * 2
  else if ki = 4 then fPlain mi te tp ht - 2 + (if so = 1 then 0 else 9)
  else if ki = 5 then (if i - i / 2 * 2 = 0 then fPlain mi te tp ht else 0)
  else fPlain mi te tp ht
def fNeeds (ki te cold : Int32) : Int32 :=
  if ki = 1 then 6 + cold + 2
  else if ki = 2 then 6 + cold - 3
  else if ki = 3 then 6 + cold + 2 + te / 10
  else if ki = 4 then 6 + cold - 3 - cold
  else if ki = 5 then (6 + cold) * 2
  else 6 + cold
def fWears (ki wear : Int32) : Int32 :=
  if ki = 2 then wear - 2
  else if ki = 3 then wear * 2
  else if ki = 4 then wear - 3
  else if ki = 5 then 0
  else wear
