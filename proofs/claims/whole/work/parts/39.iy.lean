/-! names, walks and feasts of a See V and of a block c with its names w -/
def iY (V : jM) (c w : Int → Int) : Prop := True
